/-! TEXT: a line of the programme -/
def RowR (C c M m : mI) (l np k : Nat) : Prop := (∀ a, a ≠ 109 → a ≠ 115 → c a = C a) ∧ (∀ i, i ≠ 6 → c 109 i = C 109 i) ∧ (∀ a, a ≠ 119 → a ≠ 139 → m a = M a) ∧ (∀ i, ¬ (16 ≤ i ∧ i ≤ 19) → m 119 i = M 119 i) ∧ (∀ i, ¬ (9 * l + 3 ≤ i ∧ i < 9 * l + 3 + k) → c 115 i = C 115 i) ∧ (∀ i, ¬ (144 + 9 * l + 3 ≤ i ∧ i < 144 + 9 * l + 3 + k) → m 139 i = M 139 i) ∧ (∀ i, i < k → ∃ p, p < np ∧ c 115 (9 * l + 3 + i) = nI p ∧ m 139 (144 + 9 * l + 3 + i) = nI p)
def RowQ (C M : mI) (t : Nat → Nat) (n J : Nat) (P : Nat → Nat) (l np : Nat) (u : (Int32 × mI) ⊕ (Int32 × Int32 × mI)) (v : (Int32 × mI) ⊕ (Int32 × mI)) : Prop := (∃ k c m j, u = .inr (nI k, 1, c) ∧ v = .inr (nI k, m) ∧ 1 ≤ k ∧ k ≤ 6 ∧ Syn c m t n J P j ∧ RowR C c M m l np k) ∨ (∃ c m, (u = .inl (0, c) ∨ ∃ y, u = .inr (y, 0, c)) ∧ v = .inl (-1, m) ∧ Flt c m ∧ FrC C c ∧ FrM M m)
theorem RowR_C {C c M m : mI} {l np k : Nat} (h : RowR C c M m l np k) : FrC C c := ⟨fun a ha => h.1 a (by omega) (by omega), fun i h6 _ _ _ => h.2.1 i h6⟩
theorem RowR_M {C c M m : mI} {l np k : Nat} (h : RowR C c M m l np k) : FrM M m := ⟨fun a i ha hs => by
  by_cases e : a = 139
  · subst e
    refine h.2.2.2.2.2.1 i (fun q => hs (.inl ⟨rfl, by omega⟩))
  · rw [h.2.2.1 a ha e], fun i h1 _ => h.2.2.2.1 i h1⟩
theorem row_s {C M : mI} {t : Nat → Nat} {n J : Nat} {P : Nat → Nat} {j l np : Nat} (h : Syn C M t n J P j) (hl : l < 16) (e2 : C 114 2 = nI l) (hnp : np ≤ 12) (e8 : C 109 8 = nI np) (e6 : M 119 6 = nI np) : ∃ u v, l4_row_4 FU 0 1 C = some u ∧ l10_readPieces_21 (nI (144 + 9 * l)) FU 0 M = some v ∧ RowQ C M t n J P l np u v := by
  refine loop2x (fun f k (c : mI) => l4_row_4 f (nI k) 1 c) (fun f k (m : mI) => l10_readPieces_21 (nI (144 + 9 * l)) f (nI k) m) (fun k c m => k ≤ 6 ∧ (∃ j, Syn c m t n J P j) ∧ RowR C c M m l np k) (RowQ C M t n J P l np) 7 (fun c m ⟨h7, _⟩ => absurd h7 (by omega)) (fun k c m hk ⟨h6, ⟨j, hs⟩, R⟩ => ?_) 7 0 FU FU C M (by omega) (FU_lt (by omega)) (FU_lt (by omega)) ⟨by omega, ⟨j, h⟩, fun _ _ _ => rfl, fun _ _ => rfl, fun _ _ _ => rfl, fun _ _ => rfl, fun _ _ => rfl, fun _ _ => rfl, fun i hi => absurd hi (Nat.not_lt_zero _)⟩
  obtain ⟨r1, r2, r3, r4, r5, r6, r7⟩ := R
  have R : RowR C c M m l np k := ⟨r1, r2, r3, r4, r5, r6, r7⟩
  have e8c : c 109 8 = nI np := by rw [r2 8 (by decide), e8]
  have e6m : m 119 6 = nI np := by rw [r4 6 (by omega), e6]
  have e2c : c 114 2 = nI l := by rw [r1 114 (by decide) (by decide), e2]
  have n6 : ¬ (6 : Int32) < nI k := nI_nlt (a := 6) (by omega) (by decide)
  have ix : nI (144 + 9 * l) + 3 + nI k = nI (144 + 9 * l + 3 + k) := by rw [show (3 : Int32) = nI 3 from rfl, nI_add, nI_add]
  -- a number is taken, or not
  have take : k ≤ 5 → (∀ f, l4_row_4 (f + 1) (nI k) 1 c = (r4_number c (3 + nI k) 0 (nI np - 1)).bind fun z0 => l4_row_4 f (nI (k + 1)) z0.1 z0.2) → (∀ f, l10_readPieces_21 (nI (144 + 9 * l)) (f + 1) (nI k) m = (r10_readNumber m 0 (nI np - 1)).bind fun z0 => if z0.1 = -1 then some (.inl (-1, z0.2)) else (mSto z0.2 139 288 (nI (144 + 9 * l) + 3 + nI k) z0.1).bind fun z1 => l10_readPieces_21 (nI (144 + 9 * l)) f (nI (k + 1)) z1) → (∃ u v, (∀ f, 7 - k ≤ f → l4_row_4 (f + 1) (nI k) 1 c = some u) ∧ (∀ g, 7 - k ≤ g → l10_readPieces_21 (nI (144 + 9 * l)) (g + 1) (nI k) m = some v) ∧ RowQ C M t n J P l np u v) ∨ ∃ a' b', (∀ f, 7 - k ≤ f → l4_row_4 (f + 1) (nI k) 1 c = l4_row_4 f (nI (k + 1)) 1 a') ∧ (∀ g, 7 - k ≤ g → l10_readPieces_21 (nI (144 + 9 * l)) (g + 1) (nI k) m = l10_readPieces_21 (nI (144 + 9 * l)) g (nI (k + 1)) b') ∧ (k + 1 ≤ 6 ∧ (∃ j, Syn a' b' t n J P j) ∧ RowR C a' M b' l np (k + 1)) := by
    intro k5 hc hm
    by_cases g : c 111 j = 128 ∧ ¬ c 112 j < 0 ∧ ¬ nI np - 1 < c 112 j
    · obtain ⟨C5, M5, j5, s1, s2, s3, s4, s5, s6, s7⟩ := num_y hs (c := 3 + k) (col := 3 + nI k) hl (by omega) e2c (nI_addl rfl) g.1 g.2.1 g.2.2
      obtain ⟨a, ha, ea⟩ := hi_ix (by omega) g.2.1 g.2.2
      rw [ea] at s2 s7
      refine .inr ⟨C5, mW M5 139 (144 + 9 * l + 3 + k) (nI a), fun f _ => ?_, fun f _ => ?_, by omega, ⟨j5, Syn_w s3 (by decide)⟩, fun b b1 b2 => by rw [s5 b b1 b2, r1 b b1 b2], fun i hi => by rw [s6 i hi, r2 i hi], fun b b1 b2 => by rw [mW_ne _ _ _ b2, s4.1 b b1, r3 b b1 b2], fun i hi => by rw [mW_ne _ _ _ (by decide), s4.2 i hi, r4 i hi], fun i hi => by rw [s7, mU_ne _ _ (by omega), r5 i (by omega)], fun i hi => by rw [mW_off _ _ (by omega), s4.1 139 (by decide), r6 i (by omega)], fun i hi => ?_⟩
      · rw [hc f, s1, Option.bind_some]
      · rw [hm f, s2, Option.bind_some]
        dsimp only
        rw [if_neg (nI_m1 (show a < 2 ^ 31 by omega)), ix, mSto_n (by omega) (by decide), Option.bind_some]
      · by_cases ei : i = k
        · subst ei
          exact ⟨a, ha, by rw [s7, show 9 * l + 3 + i = 9 * l + (3 + i) by omega, mU_eq], mW_at _ _ _ _⟩
        · obtain ⟨p, hp, q1, q2⟩ := r7 i (by omega)
          exact ⟨p, hp, by rw [s7, mU_ne _ _ (by omega), q1], by rw [mW_off _ _ (by omega), s4.1 139 (by decide), q2]⟩
    · obtain ⟨C5, M5, s1, s2, s3, s4, s5⟩ := num_n hs (3 + nI k) g
      refine .inl ⟨.inr (nI (k + 1), 0, C5), .inl (-1, M5), fun f hf => ?_, fun f _ => ?_, .inr ⟨C5, M5, .inr ⟨_, rfl⟩, rfl, s3, FrC_t (RowR_C R) s4, FrM_t (RowR_M R) s5⟩⟩
      · obtain ⟨f, rfl⟩ : ∃ g, f = g + 1 := ⟨f - 1, by omega⟩
        rw [hc (f + 1), s1, Option.bind_some]
        dsimp only
        rw [l4_row_4, if_pos rfl]
      · rw [hm f, s2, Option.bind_some]
        dsimp only
        rw [if_pos rfl]
  by_cases k0 : k = 0
  · subst k0
    refine take (by omega) (fun f => ?_) (fun f => ?_)
    · rw [l4_row_4, if_neg one_n0, if_neg n6, if_pos nI_0, if_neg (show ¬ nI 0 = (6 : Int32) by decide), e8c, nI_1]
    · rw [l10_readPieces_21, if_pos nI_0, if_neg (show ¬ nI 0 = (6 : Int32) by decide), e6m, nI_1]
  · have nk0 : ¬ nI k = 0 := nI_ne0 (by omega) (by omega)
    by_cases kd : c 111 j = 128
    · have kd' := (num_e hs).1.mpr kd
      by_cases k6 : k = 6
      · subst k6
        have e66 : nI 6 = (6 : Int32) := rfl
        by_cases big : nI np ≤ c 112 j
        · have g : ¬ (c 111 j = 128 ∧ ¬ c 112 j < 0 ∧ ¬ nI np - 1 < c 112 j) := fun q => by
            obtain ⟨a, ha, ea⟩ := hi_ix (by omega) q.2.1 q.2.2
            rw [ea, nI_leI (by omega) (by omega)] at big
            omega
          obtain ⟨C5, M5, s1, s2, s3, s4, s5⟩ := num_n hs (3 + nI 6) g
          have isz : r10_isIn (m 119 19) 0 (nI np - 1) = 0 := by
            rw [(num_e hs).2 kd]
            by_cases a : c 112 j < 0
            · exact isIn_0a a
            · exact isIn_0b (Classical.byContradiction fun q => g ⟨kd, a, q⟩)
          refine .inl ⟨.inr (nI (6 + 1), 0, C5), .inl (-1, M5), fun f hf => ?_, fun f _ => ?_, .inr ⟨C5, M5, .inr ⟨_, rfl⟩, rfl, s3, FrC_t (RowR_C R) s4, FrM_t (RowR_M R) s5⟩⟩
          · obtain ⟨f, rfl⟩ : ∃ g, f = g + 1 := ⟨f - 1, by omega⟩
            show l4_row_4 (f + 1 + 1) _ _ _ = _
            rw [l4_row_4, if_neg one_n0, if_neg n6, if_neg nk0, kind_e hs, Option.bind_some, if_pos kd, if_pos e66, value_e hs, Option.bind_some, e8c, if_pos big, s1, Option.bind_some]
            dsimp only
            rw [l4_row_4, if_pos rfl, nI_1]
          · show l10_readPieces_21 _ (f + 1) _ _ = _
            rw [l10_readPieces_21, if_neg nk0, if_pos kd', if_pos e66, e6m, isz, if_pos rfl, s2, Option.bind_some]
            dsimp only
            rw [if_pos rfl]
        · have nneg : ¬ c 112 j < 0 := by
            obtain ⟨⟨_, hT, _⟩, _, hj, _⟩ := hs
            obtain ⟨s, t1, _⟩ := hT.2 j (by omega)
            rw [kd] at t1
            obtain ⟨_, b⟩ := t1
            rcases b with ⟨_, _, b3, _⟩ | ⟨b1, b2, b3, b4, w, b5, b6⟩ | ⟨b1, b2, b3, b4, b5, b6⟩ | ⟨b1, b2, b3, b4, b5, b6⟩
            · exact absurd b3 (by decide)
            · rw [b4]; decide
            · have lt := vl_lt (t := t) (s := s) (min 4 (P (j + 1) - s)) (fun i hi => (b4.2.1 (s + i) (by omega) (by omega)).2)
              have le : 10 ^ (min 4 (P (j + 1) - s)) ≤ 10 ^ 4 := Nat.pow_le_pow_right (by decide) (by omega)
              rw [b6]; exact nI_pos (by omega)
            · rw [b5]; decide
          have iso : r10_isIn (m 119 19) 0 (nI np - 1) = 1 := by
            rw [(num_e hs).2 kd]
            obtain ⟨x, hx, ex⟩ := nI_of nneg
            rw [ex, nI_leI (by omega) hx] at big
            refine isIn_1 nneg ?_
            rw [ex]
            cases np with
            | zero => exact absurd (Nat.zero_le x) big
            | succ np => rw [nI_pred]; exact nI_nlt (by omega) (by omega)
          obtain ⟨C5, M5, s1, s2, s3, s4, s5⟩ := blame_e hs (w := 3) (by decide)
          refine .inl ⟨.inl (0, C5), .inl (-1, M5), fun f hf => ?_, fun f _ => ?_, .inr ⟨C5, M5, .inl rfl, rfl, s3, FrC_t (RowR_C R) s4, FrM_t (RowR_M R) s5⟩⟩
          · show l4_row_4 (f + 1) _ _ _ = _
            rw [l4_row_4, if_neg one_n0, if_neg n6, if_neg nk0, kind_e hs, Option.bind_some, if_pos kd, if_pos e66, value_e hs, Option.bind_some, e8c, if_neg big, s1, Option.bind_some]
            show some (Sum.inl ((0 : Int32) &&& 1, C5)) = _
            rw [and1.2]
          · show l10_readPieces_21 _ (f + 1) _ _ = _
            rw [l10_readPieces_21, if_neg nk0, if_pos kd', if_pos e66, e6m, iso, if_neg one_n0, s2, Option.bind_some]
      · have nk6 : ¬ nI k = (6 : Int32) := by rw [nI_eqk 6 6 rfl (by decide) (by omega)]; exact k6
        refine take (by omega) (fun f => ?_) (fun f => ?_)
        · rw [l4_row_4, if_neg one_n0, if_neg n6, if_neg nk0, kind_e hs, Option.bind_some, if_pos kd, if_neg nk6, e8c, nI_1]
        · rw [l10_readPieces_21, if_neg nk0, if_pos kd', if_neg nk6, e6m, nI_1]
    · refine .inl ⟨.inr (nI k, 1, c), .inr (nI k, m), fun f _ => ?_, fun f _ => ?_, .inl ⟨k, c, m, j, rfl, rfl, by omega, h6, hs, R⟩⟩
      · show l4_row_4 (f + 1) _ _ _ = _
        rw [l4_row_4, if_neg one_n0, if_neg n6, if_neg nk0, kind_e hs, Option.bind_some, if_neg kd]
      · show l10_readPieces_21 _ (f + 1) _ _ = _
        rw [l10_readPieces_21, if_neg nk0, if_neg (fun q => kd ((num_e hs).1.mp q))]
def ProgR (C C' M M' : mI) (l np nq : Nat) : Prop := FrC C C' ∧ FrM M M' ∧ C' 114 = C 114 ∧ C' 116 = C 116 ∧ (∀ i, ¬ (9 * l ≤ i ∧ i < 9 * l + 9) → C' 115 i = C 115 i) ∧ (∀ i, ¬ (144 + 9 * l ≤ i ∧ i < 144 + 9 * l + 9) → M' 139 i = M 139 i) ∧ C' 115 (9 * l) = M' 139 (144 + 9 * l) ∧ (∃ p, p < nq ∧ C' 115 (9 * l + 1) = nI p ∧ M' 139 (144 + 9 * l + 1) = nI p) ∧ ∃ q, 1 ≤ q ∧ q ≤ 6 ∧ C' 115 (9 * l + 2) = nI q ∧ M' 139 (144 + 9 * l + 2) = nI q ∧ ∀ i, i < q → ∃ p, p < np ∧ C' 115 (9 * l + 3 + i) = nI p ∧ M' 139 (144 + 9 * l + 3 + i) = nI p
theorem prog_s {C M : mI} {t : Nat → Nat} {n J : Nat} {P : Nat → Nat} {j l np nq : Nat} (h : Syn C M t n J P j) (hl : l < 16) (e2 : C 114 2 = nI l) (hnp : np ≤ 12) (hnq : nq ≤ 6) (e8 : C 109 8 = nI np) (e6 : M 119 6 = nI np) (e9 : C 109 9 = nI nq) (e7 : M 119 7 = nI nq) : (∃ C' M' j' v, r4_programmeLine C = some (1, C') ∧ r10_readEvening M (nI (144 + 9 * l)) = some (v, M') ∧ ¬ v = -1 ∧ Syn C' M' t n J P j' ∧ ProgR C C' M M' l np nq) ∨ (∃ C' M', r4_programmeLine C = some (0, C') ∧ r10_readEvening M (nI (144 + 9 * l)) = some (-1, M') ∧ Flt C' M' ∧ FrC C C' ∧ FrM M M') := by
  unfold r4_programmeLine r10_readEvening
  have s0 : ∀ i, 144 ≤ i → Sf 139 i := fun i hi => .inl ⟨rfl, hi⟩
  have n1 : nI (144 + 9 * l) + 1 = nI (144 + 9 * l + 1) := nI_1 _
  rw [n1]
  rcases told_s h (w := 19) (c := 0) (col := 0) (low := 0) (high := 999) hl (by decide) (by decide) e2 rfl with ⟨C1, C2, M2, j2, v, p1, _, _, p2, p3, p4, p5, p6, p7, p8, p9, p10⟩ | ⟨C', M', p1, p2, p3, p4, p5⟩
  · have vm : ¬ v = -1 := fun q => p4 (by rw [q]; decide)
    have p1 : r4_pass C 19 = some (1, C1) := p1
    have p3 : r10_readTold M 19 0 999 = some (v, M2) := p3
    rw [p1, Option.bind_some]
    dsimp only
    rw [if_neg one_n0, p2, Option.bind_some]
    dsimp only
    rw [if_neg one_n0, p3, Option.bind_some]
    dsimp only
    rw [mSto_n (by omega) (by decide), Option.bind_some, mLd_n (by omega) (by decide), Option.bind_some, mW_at, if_neg vm, mW_ne _ _ _ (show 119 ≠ 139 by decide), p7.2 7 (by omega), e7]
    have h3 : Syn C2 (mW M2 139 (144 + 9 * l) v) t n J P j2 := Syn_w p6 (by decide)
    have F2 : FrC C C2 := ⟨fun a ha => p8 a (by omega) (by omega), fun k a _ _ _ => p9 k a⟩
    have G2 : FrM M (mW M2 139 (144 + 9 * l) v) := FrM_t (fsM_F p7) (FrM_w (s0 _ (by omega)) (by decide))
    have e22 : C2 114 2 = nI l := by rw [p8 114 (by decide) (by decide), e2]
    have m139 : ∀ i, (mW M2 139 (144 + 9 * l) v) 139 i = if i = 144 + 9 * l then v else M 139 i := fun i => by rw [mW_rd, if_pos rfl, p7.1 139 (by decide)]
    have f3 : ∀ i, ¬ (16 ≤ i ∧ i ≤ 19) → (mW M2 139 (144 + 9 * l) v) 119 i = M 119 i := fun i hi => by rw [mW_ne _ _ _ (by decide), p7.2 i hi]
    generalize mW M2 139 (144 + 9 * l) v = M3 at *
    rcases told_s h3 (w := 20) (c := 1) (col := 1) (low := 0) (high := nI nq - 1) hl (by decide) (by decide) e22 rfl with ⟨D1, C4, M4, j4, v4, q1, _, q19, q2, q3, q4, q5, q6, q7, q8, q9, q10⟩ | ⟨C', M', q1, q2, q3, q4, q5⟩
    · obtain ⟨pl, hpl, rfl⟩ := hi_ix (by omega) q4 q5
      have plm : ¬ nI pl = -1 := nI_m1 (by omega)
      have q1 : r4_pass C2 20 = some (1, D1) := q1
      have q3 : r10_readTold M3 20 0 (nI nq - 1) = some (nI pl, M4) := q3
      rw [q1, Option.bind_some]
      dsimp only
      rw [if_neg one_n0, q19, p9 9 (by decide), e9, q2, Option.bind_some]
      dsimp only
      rw [if_neg one_n0, q3, Option.bind_some]
      dsimp only
      rw [mSto_n (by omega) (by decide), Option.bind_some, mLd_n (by omega) (by decide), Option.bind_some, mW_at, if_neg plm]
      have h5 : Syn C4 (mW M4 139 (144 + 9 * l + 1) (nI pl)) t n J P j4 := Syn_w q6 (by decide)
      have F4 : FrC C C4 := FrC_t F2 ⟨fun a ha => q8 a (by omega) (by omega), fun k a _ _ _ => q9 k a⟩
      have G4 : FrM M (mW M4 139 (144 + 9 * l + 1) (nI pl)) := FrM_t G2 (FrM_t (fsM_F q7) (FrM_w (s0 _ (by omega)) (by decide)))
      have m139' : ∀ i, (mW M4 139 (144 + 9 * l + 1) (nI pl)) 139 i = if i = 144 + 9 * l + 1 then nI pl else if i = 144 + 9 * l then v else M 139 i := fun i => by rw [mW_rd, if_pos rfl, q7.1 139 (by decide), m139]
      have f5 : ∀ i, ¬ (16 ≤ i ∧ i ≤ 19) → (mW M4 139 (144 + 9 * l + 1) (nI pl)) 119 i = M 119 i := fun i hi => by rw [mW_ne _ _ _ (by decide), q7.2 i hi, f3 i hi]
      have c115 : ∀ i, C4 115 i = if i = 9 * l + 1 then nI pl else if i = 9 * l then v else C 115 i := fun i => by
        rw [q10, p10]
        rfl
      have e24 : C4 114 2 = nI l := by rw [q8 114 (by decide) (by decide), e22]
      have e84 : C4 109 8 = nI np := by rw [q9 8 (by decide), p9 8 (by decide), e8]
      have c114 : C4 114 = C 114 := by rw [q8 114 (by decide) (by decide), p8 114 (by decide) (by decide)]
      have c116 : C4 116 = C 116 := by rw [q8 116 (by decide) (by decide), p8 116 (by decide) (by decide)]
      generalize mW M4 139 (144 + 9 * l + 1) (nI pl) = M5 at *
      have w21 : r10_isWord M5 21 = if C4 111 j4 = nI 21 then 1 else 0 := word_e h5 (w := 21) (by omega)
      unfold r10_readPieces
      rw [w21]
      by_cases k : C4 111 j4 = nI 21
      · obtain ⟨C6, M6, j6, r1, r2, r3, r4, r5⟩ := pass_y h5 k
        have r1 : r4_pass C4 21 = some (1, C6) := r1
        rw [r1, Option.bind_some]
        dsimp only
        rw [if_neg one_n0, if_pos k, if_neg one_n0, r2, Option.bind_some]
        have F6 : FrC C C6 := FrC_t F4 (fsC_F r4)
        have G6 : FrM M M6 := FrM_t G4 (fsM_F r5)
        obtain ⟨u, w, u1, u2, uq⟩ := row_s r3 hl (by rw [r4.1 114 (by decide), e24]) hnp (by rw [r4.2 8 (by decide), e84]) (by rw [r5.2 6 (by omega), f5 6 (by omega), e6])
        unfold r4_row
        rw [u1, Option.bind_some, u2, Option.bind_some]
        rcases uq with ⟨k7, c7, m7, j7, rfl, rfl, k1, k6, hs7, R7⟩ | ⟨c7, m7, hu, rfl, fl, fc, fm⟩
        · have e27 : c7 114 2 = nI l := by rw [R7.1 114 (by decide) (by decide), r4.1 114 (by decide), e24]
          have n2 : nI (144 + 9 * l) + 2 = nI (144 + 9 * l + 2) := nI_add _ 2
          have k7m : ¬ nI k7 = -1 := nI_m1 (by omega)
          dsimp only
          rw [write_e (C := c7) (k := 2) (c := 2) hl (by decide) e27 rfl, Option.bind_some, n2, mSto_n (by omega) (by decide), Option.bind_some, Option.bind_some]
          dsimp only
          rw [show ((1 : Int32) &&& 1) = 1 from and1.1, Option.bind_some]
          dsimp only
          rw [if_neg one_n0, if_neg k7m]
          have h8 : Syn (mW c7 115 (9 * l + 2) (nI k7)) (mW m7 139 (144 + 9 * l + 2) (nI k7)) t n J P j7 := Syn_w (Syn_C hs7 (mW_ne _ _ _ (by decide)) (mW_ne _ _ _ (by decide)) (mW_ne _ _ _ (by decide)) (by rw [mW_ne _ _ _ (by decide)]) (by rw [mW_ne _ _ _ (by decide)])) (by decide)
          have F8 : FrC C (mW c7 115 (9 * l + 2) (nI k7)) := FrC_t F6 (FrC_t (RowR_C R7) (FrC_w (by omega)))
          have G8 : FrM M (mW m7 139 (144 + 9 * l + 2) (nI k7)) := FrM_t G6 (FrM_t (RowR_M R7) (FrM_w (s0 _ (by omega)) (by decide)))
          obtain ⟨y1, y2, y3, y4, y5, y6, y7⟩ := R7
          have cc : ∀ i, ¬ (9 * l + 2 ≤ i ∧ i < 9 * l + 3 + k7) → c7 115 i = if i = 9 * l + 1 then nI pl else if i = 9 * l then v else C 115 i := fun i hi => by rw [y5 i (by omega), r4.1 115 (by decide), c115]
          have mm : ∀ i, ¬ (144 + 9 * l + 2 ≤ i ∧ i < 144 + 9 * l + 3 + k7) → m7 139 i = if i = 144 + 9 * l + 1 then nI pl else if i = 144 + 9 * l then v else M 139 i := fun i hi => by rw [y6 i (by omega), r5.1 139 (by decide), m139']
          rcases mark_s h8 with ⟨C9, M9, j9, m1, m2, m3, m4, m5⟩ | ⟨C9, M9, m1, m2, m3, m4, m5⟩
          · refine .inl ⟨C9, M9, j9, 0, ?_, ?_, by decide, m3, FrC_t F8 (fsC_F m4), FrM_t G8 (fsM_F m5), by rw [m4.1 114 (by decide), mW_ne _ _ _ (by decide), y1 114 (by decide) (by decide), r4.1 114 (by decide), c114], by rw [m4.1 116 (by decide), mW_ne _ _ _ (by decide), y1 116 (by decide) (by decide), r4.1 116 (by decide), c116], fun i hi => ?_, fun i hi => ?_, ?_, ⟨pl, hpl, ?_, ?_⟩, k7, k1, k6, ?_, ?_, fun i hi => ?_⟩
            · rw [m1, Option.bind_some]
              dsimp only
              rw [if_neg one_n0, Option.bind_some]
              show some ((1 : Int32) &&& 1, C9) = _
              rw [and1.1]
            · rw [m2, Option.bind_some]
            · rw [m4.1 115 (by decide), mW_off _ _ (by omega), cc i (by omega), if_neg (by omega), if_neg (by omega)]
            · rw [m5.1 139 (by decide), mW_off _ _ (by omega), mm i (by omega), if_neg (by omega), if_neg (by omega)]
            · rw [m4.1 115 (by decide), mW_off _ _ (by omega), cc _ (by omega), if_neg (by omega), if_pos rfl, m5.1 139 (by decide), mW_off _ _ (by omega), mm _ (by omega), if_neg (by omega), if_pos rfl]
            · rw [m4.1 115 (by decide), mW_off _ _ (by omega), cc _ (by omega), if_pos rfl]
            · rw [m5.1 139 (by decide), mW_off _ _ (by omega), mm _ (by omega), if_pos rfl]
            · rw [m4.1 115 (by decide), mW_at]
            · rw [m5.1 139 (by decide), mW_at]
            · obtain ⟨x, hx, x1, x2⟩ := y7 i hi
              exact ⟨x, hx, by rw [m4.1 115 (by decide), mW_off _ _ (by omega), x1], by rw [m5.1 139 (by decide), mW_off _ _ (by omega), x2]⟩
          · refine .inr ⟨C9, M9, ?_, ?_, m3, FrC_t F8 m4, FrM_t G8 m5⟩
            · rw [m1, Option.bind_some]
              dsimp only
              rw [if_pos rfl, Option.bind_some]
              show some ((0 : Int32) &&& 1, C9) = _
              rw [and1.2]
            · rw [m2, Option.bind_some]
        · rcases hu with rfl | ⟨y, rfl⟩
          · refine .inr ⟨c7, m7, ?_, ?_, fl, FrC_t F6 fc, FrM_t G6 fm⟩
            · dsimp only
              rw [Option.bind_some]
              dsimp only
              rw [if_pos rfl, Option.bind_some]
              show some ((0 : Int32) &&& 1, c7) = _
              rw [and1.2]
            · dsimp only
              rw [Option.bind_some]
              dsimp only
              rw [if_pos rfl]
          · have wr : ∃ c8, r6_write_114 c7 2 y = some c8 ∧ Flt c8 m7 ∧ FrC c7 c8 := by
              have e27 : c7 114 2 = c7 114 2 := rfl
              unfold r6_write_114
              by_cases a1 : c7 114 2 * 9 + 2 < 0
              · exact ⟨c7, by rw [if_pos a1, Option.bind_some], fl, FrC_r _⟩
              · by_cases a2 : (144 : Int32) ≤ c7 114 2 * 9 + 2
                · exact ⟨c7, by rw [if_neg a1, if_pos a2, Option.bind_some], fl, FrC_r _⟩
                · obtain ⟨x, hx, ex⟩ := ix_of (n := 144) a1 a2 (by decide)
                  refine ⟨mW c7 115 x y, by rw [if_neg a1, if_neg a2, ex, mSto_n hx (by decide), Option.bind_some, Option.bind_some], ⟨by rw [mW_ne _ _ _ (by decide)]; exact fl.1, by rw [mW_ne _ _ _ (by decide)]; exact fl.2.1, by rw [mW_ne _ _ _ (by decide)]; exact fl.2.2⟩, FrC_w (by omega)⟩
            obtain ⟨c8, w1, w2, w3⟩ := wr
            refine .inr ⟨c8, m7, ?_, ?_, w2, FrC_t F6 (FrC_t fc w3), FrM_t G6 fm⟩
            · dsimp only
              rw [w1, Option.bind_some, show ((0 : Int32) &&& 1) = 0 from and1.2, Option.bind_some]
              dsimp only
              rw [if_pos rfl, Option.bind_some]
              show some ((0 : Int32) &&& 1, c8) = _
              rw [and1.2]
            · dsimp only
              rw [Option.bind_some]
              dsimp only
              rw [if_pos rfl]
      · obtain ⟨C', M', r1, r2, r3, r4, r5⟩ := pass_n h5 k
        have r1 : r4_pass C4 21 = some (0, C') := r1
        refine .inr ⟨C', M', ?_, ?_, r3, FrC_t F4 r4, FrM_t G4 r5⟩
        · rw [r1, Option.bind_some]
          dsimp only
          rw [if_pos rfl, Option.bind_some]
          show some ((0 : Int32) &&& 1, C') = _
          rw [and1.2]
        · rw [if_neg k, if_pos rfl, r2, Option.bind_some, Option.bind_some]
          dsimp only
          rw [if_pos rfl]
    · have q2 : r10_readTold M3 20 0 (nI nq - 1) = some (-1, M') := q2
      refine .inr ⟨C', mW M' 139 (144 + 9 * l + 1) (-1), ?_, ?_, ⟨q3.1, by rw [mW_ne _ _ _ (by decide)]; exact q3.2.1, by rw [mW_ne _ _ _ (by decide)]; exact q3.2.2⟩, FrC_t F2 q4, FrM_t G2 (FrM_t q5 (FrM_w (s0 _ (by omega)) (by decide)))⟩
      · rcases q1 with q1 | ⟨D1, q1, _, q19, q1'⟩
        · have q1 : r4_pass C2 20 = some (0, C') := q1
          rw [q1, Option.bind_some]
          dsimp only
          rw [if_pos rfl, Option.bind_some]
          show some ((0 : Int32) &&& 1, C') = _
          rw [and1.2]
        · have q1 : r4_pass C2 20 = some (1, D1) := q1
          rw [q1, Option.bind_some]
          dsimp only
          rw [if_neg one_n0, q19, p9 9 (by decide), e9, q1', Option.bind_some]
          dsimp only
          rw [if_pos rfl, Option.bind_some]
          show some ((0 : Int32) &&& 1, C') = _
          rw [and1.2]
      · rw [q2, Option.bind_some]
        dsimp only
        rw [mSto_n (by omega) (by decide), Option.bind_some, mLd_n (by omega) (by decide), Option.bind_some, mW_at, if_pos rfl]
  · have p2 : r10_readTold M 19 0 999 = some (-1, M') := p2
    refine .inr ⟨C', mW M' 139 (144 + 9 * l) (-1), ?_, ?_, ⟨p3.1, by rw [mW_ne _ _ _ (by decide)]; exact p3.2.1, by rw [mW_ne _ _ _ (by decide)]; exact p3.2.2⟩, p4, FrM_t p5 (FrM_w (s0 _ (by omega)) (by decide))⟩
    · rcases p1 with p1 | ⟨C1, p1, _, _, p1'⟩
      · have p1 : r4_pass C 19 = some (0, C') := p1
        rw [p1, Option.bind_some]
        dsimp only
        rw [if_pos rfl, Option.bind_some]
        show some ((0 : Int32) &&& 1, C') = _
        rw [and1.2]
      · have p1 : r4_pass C 19 = some (1, C1) := p1
        rw [p1, Option.bind_some]
        dsimp only
        rw [if_neg one_n0, p1', Option.bind_some]
        dsimp only
        rw [if_pos rfl, Option.bind_some]
        show some ((0 : Int32) &&& 1, C') = _
        rw [and1.2]
    · rw [p2, Option.bind_some]
      dsimp only
      rw [mSto_n (by omega) (by decide), Option.bind_some, mLd_n (by omega) (by decide), Option.bind_some, mW_at, if_pos rfl]

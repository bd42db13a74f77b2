/-! TEXT: a line of the programme -/
def RowR (C c M m : mI) (l np k : Nat) : Prop := (∀ a, a ≠ 109 → a ≠ 115 → c a = C a) ∧ (∀ i, i ≠ 6 → c 109 i = C 109 i) ∧ (∀ a, a ≠ 119 → a ≠ 139 → m a = M a) ∧ (∀ i, ¬ (16 ≤ i ∧ i ≤ 19) → m 119 i = M 119 i) ∧ (∀ i, ¬ (9 * l + 3 ≤ i ∧ i < 9 * l + 3 + k) → c 115 i = C 115 i) ∧ (∀ i, ¬ (144 + 9 * l + 3 ≤ i ∧ i < 144 + 9 * l + 3 + k) → m 139 i = M 139 i) ∧ (∀ i, i < k → ∃ p, p < np ∧ c 115 (9 * l + 3 + i) = nI p ∧ m 139 (144 + 9 * l + 3 + i) = nI p)
def RowQ (C M : mI) (t : Nat → Nat) (n J : Nat) (P : Nat → Nat) (l np : Nat) (u : (Int32 × mI) ⊕ (Int32 × Int32 × mI)) (v : (Int32 × mI) ⊕ (Int32 × mI)) : Prop := (∃ k c m j, u = .inr (nI k, 1, c) ∧ v = .inr (nI k, m) ∧ 1 ≤ k ∧ k ≤ 6 ∧ Syn c m t n J P j ∧ RowR C c M m l np k) ∨ (∃ c m, (u = .inl (0, c) ∨ ∃ y, u = .inr (y, 0, c)) ∧ v = .inl (-1, m) ∧ Flt c m ∧ FrC C c ∧ FrM M m)
theorem RowR_C {C c M m : mI} {l np k : Nat} (h : RowR C c M m l np k) : FrC C c := ⟨fun a ha => h.1 a (by omega) (by omega), fun i h6 _ _ _ => h.2.1 i h6⟩
theorem RowR_M {C c M m : mI} {l np k : Nat} (h : RowR C c M m l np k) : FrM M m := ⟨fun a i ha hs => by
  by_cases e : a = 139
  · subst e
    refine h.2.2.2.2.2.1 i (fun q => hs (.inl ⟨rfl, by omega⟩))
  · rw [h.2.2.1 a ha e], fun i h1 _ => h.2.2.2.1 i h1⟩
theorem row_s {C M : mI} {t : Nat → Nat} {n J : Nat} {P : Nat → Nat} {j l np : Nat} (h : Syn C M t n J P j) (hl : l < 16) (e2 : C 114 2 = nI l) (hnp : np ≤ 12) (e8 : C 109 8 = nI np) (e6 : M 119 6 = nI np) : ∃ u v, l4_row_4 FU 0 1 C = some u ∧ l10_readPieces_21 (nI (144 + 9 * l)) FU 0 M = some v ∧ RowQ C M t n J P l np u v := by
  refine loop2x (fun f k (c : mI) => l4_row_4 f (nI k) 1 c) (fun f k (m : mI) => l10_readPieces_21 (nI (144 + 9 * l)) f (nI k) m) (fun k c m => k ≤ 6 ∧ (∃ j, Syn c m t n J P j) ∧ RowR C c M m l np k) (RowQ C M t n J P l np) 7 (fun c m ⟨h7, _⟩ => absurd h7 (by omega)) (fun k c m hk ⟨h6, ⟨j, hs⟩, R⟩ => ?_) 7 0 FU FU C M (by omega) (FU_lt (by omega)) (FU_lt (by omega)) ⟨by omega, ⟨j, h⟩, fun _ _ _ => rfl, fun _ _ => rfl, fun _ _ _ => rfl, fun _ _ => rfl, fun _ _ => rfl, fun _ _ => rfl, fun i hi => absurd hi (Nat.not_lt_zero _)⟩
  obtain ⟨r1, r2, r3, r4, r5, r6, r7⟩ := R
  have R : RowR C c M m l np k := ⟨r1, r2, r3, r4, r5, r6, r7⟩
  have e8c : c 109 8 = nI np := by rw [r2 8 (by decide), e8]
  have e6m : m 119 6 = nI np := by rw [r4 6 (by omega), e6]
  have e2c : c 114 2 = nI l := by rw [r1 114 (by decide) (by decide), e2]
  have n6 : ¬ (6 : Int32) < nI k := nI_nlt (a := 6) (by omega) (by decide)
  have ix : nI (144 + 9 * l) + 3 + nI k = nI (144 + 9 * l + 3 + k) := by rw [show (3 : Int32) = nI 3 from rfl, nI_add, nI_add]
  -- a number is taken, or not
  have take : k ≤ 5 → (∀ f, l4_row_4 (f + 1) (nI k) 1 c = (r4_number c (3 + nI k) 0 (nI np - 1)).bind fun z0 => l4_row_4 f (nI (k + 1)) z0.1 z0.2) → (∀ f, l10_readPieces_21 (nI (144 + 9 * l)) (f + 1) (nI k) m = (r10_readNumber m 0 (nI np - 1)).bind fun z0 => if z0.1 = -1 then some (.inl (-1, z0.2)) else (mSto z0.2 139 288 (nI (144 + 9 * l) + 3 + nI k) z0.1).bind fun z1 => l10_readPieces_21 (nI (144 + 9 * l)) f (nI (k + 1)) z1) → (∃ u v, (∀ f, 7 - k ≤ f → l4_row_4 (f + 1) (nI k) 1 c = some u) ∧ (∀ g, 7 - k ≤ g → l10_readPieces_21 (nI (144 + 9 * l)) (g + 1) (nI k) m = some v) ∧ RowQ C M t n J P l np u v) ∨ ∃ a' b', (∀ f, 7 - k ≤ f → l4_row_4 (f + 1) (nI k) 1 c = l4_row_4 f (nI (k + 1)) 1 a') ∧ (∀ g, 7 - k ≤ g → l10_readPieces_21 (nI (144 + 9 * l)) (g + 1) (nI k) m = l10_readPieces_21 (nI (144 + 9 * l)) g (nI (k + 1)) b') ∧ (k + 1 ≤ 6 ∧ (∃ j, Syn a' b' t n J P j) ∧ RowR C a' M b' l np (k + 1)) := by
    intro k5 hc hm
    by_cases g : c 111 j = 128 ∧ ¬ c 112 j < 0 ∧ ¬ nI np - 1 < c 112 j
    · obtain ⟨C5, M5, j5, s1, s2, s3, s4, s5, s6, s7⟩ := num_y hs (c := 3 + k) (col := 3 + nI k) hl (by omega) e2c (nI_addl rfl) g.1 g.2.1 g.2.2
      obtain ⟨a, ha, ea⟩ := hi_ix (by omega) g.2.1 g.2.2
      rw [ea] at s2 s7
      refine .inr ⟨C5, mW M5 139 (144 + 9 * l + 3 + k) (nI a), fun f _ => ?_, fun f _ => ?_, by omega, ⟨j5, Syn_w s3 (by decide)⟩, fun b b1 b2 => by rw [s5 b b1 b2, r1 b b1 b2], fun i hi => by rw [s6 i hi, r2 i hi], fun b b1 b2 => by rw [mW_ne _ _ _ b2, s4.1 b b1, r3 b b1 b2], fun i hi => by rw [mW_ne _ _ _ (by decide), s4.2 i hi, r4 i hi], fun i hi => by rw [s7, mU_ne _ _ (by omega), r5 i (by omega)], fun i hi => by rw [mW_off _ _ (by omega), s4.1 139 (by decide), r6 i (by omega)], fun i hi => ?_⟩
      · rw [hc f, s1, Option.bind_some]
      · rw [hm f, s2, Option.bind_some]
        dsimp only
        rw [if_neg (nI_m1 (show a < 2 ^ 31 by omega)), ix, mSto_n (by omega) (by decide), Option.bind_some]
      · by_cases ei : i = k
        · subst ei
          exact ⟨a, ha, by rw [s7, show 9 * l + 3 + i = 9 * l + (3 + i) by omega, mU_eq], mW_at _ _ _ _⟩
        · obtain ⟨p, hp, q1, q2⟩ := r7 i (by omega)
          exact ⟨p, hp, by rw [s7, mU_ne _ _ (by omega), q1], by rw [mW_off _ _ (by omega), s4.1 139 (by decide), q2]⟩
    · obtain ⟨C5, M5, s1, s2, s3, s4, s5⟩ := num_n hs (3 + nI k) g
      refine .inl ⟨.inr (nI (k + 1), 0, C5), .inl (-1, M5), fun f hf => ?_, fun f _ => ?_, .inr ⟨C5, M5, .inr ⟨_, rfl⟩, rfl, s3, FrC_t (RowR_C R) s4, FrM_t (RowR_M R) s5⟩⟩
      · obtain ⟨f, rfl⟩ : ∃ g, f = g + 1 := ⟨f - 1, by omega⟩
        rw [hc (f + 1), s1, Option.bind_some]
        dsimp only
        rw [l4_row_4, if_pos rfl]
      · rw [hm f, s2, Option.bind_some]
        dsimp only
        rw [if_pos rfl]
  by_cases k0 : k = 0
  · subst k0
    refine take (by omega) (fun f => ?_) (fun f => ?_)
    · rw [l4_row_4, if_neg one_n0, if_neg n6, if_pos nI_0, if_neg (show ¬ nI 0 = (6 : Int32) by decide), e8c, nI_1]
    · rw [l10_readPieces_21, if_pos nI_0, if_neg (show ¬ nI 0 = (6 : Int32) by decide), e6m, nI_1]
  · have nk0 : ¬ nI k = 0 := nI_ne0 (by omega) (by omega)
    by_cases kd : c 111 j = 128
    · have kd' := (num_e hs).1.mpr kd
      by_cases k6 : k = 6
      · subst k6
        have e66 : nI 6 = (6 : Int32) := rfl
        by_cases big : nI np ≤ c 112 j
        · have g : ¬ (c 111 j = 128 ∧ ¬ c 112 j < 0 ∧ ¬ nI np - 1 < c 112 j) := fun q => by
            obtain ⟨a, ha, ea⟩ := hi_ix (by omega) q.2.1 q.2.2
            rw [ea, nI_leI (by omega) (by omega)] at big
            omega
          obtain ⟨C5, M5, s1, s2, s3, s4, s5⟩ := num_n hs (3 + nI 6) g
          have isz : r10_isIn (m 119 19) 0 (nI np - 1) = 0 := by
            rw [(num_e hs).2 kd]
            by_cases a : c 112 j < 0
            · exact isIn_0a a
            · exact isIn_0b (Classical.byContradiction fun q => g ⟨kd, a, q⟩)
          refine .inl ⟨.inr (nI (6 + 1), 0, C5), .inl (-1, M5), fun f hf => ?_, fun f _ => ?_, .inr ⟨C5, M5, .inr ⟨_, rfl⟩, rfl, s3, FrC_t (RowR_C R) s4, FrM_t (RowR_M R) s5⟩⟩
          · obtain ⟨f, rfl⟩ : ∃ g, f = g + 1 := ⟨f - 1, by omega⟩
            show l4_row_4 (f + 1 + 1) _ _ _ = _
            rw [l4_row_4, if_neg one_n0, if_neg n6, if_neg nk0, kind_e hs, Option.bind_some, if_pos kd, if_pos e66, value_e hs, Option.bind_some, e8c, if_pos big, s1, Option.bind_some]
            dsimp only
            rw [l4_row_4, if_pos rfl, nI_1]
          · show l10_readPieces_21 _ (f + 1) _ _ = _
            rw [l10_readPieces_21, if_neg nk0, if_pos kd', if_pos e66, e6m, isz, if_pos rfl, s2, Option.bind_some]
            dsimp only
            rw [if_pos rfl]
        · have nneg : ¬ c 112 j < 0 := by
            obtain ⟨⟨_, hT, _⟩, _, hj, _⟩ := hs
            obtain ⟨s, t1, _⟩ := hT.2 j (by omega)
            rw [kd] at t1
            obtain ⟨_, b⟩ := t1
            rcases b with ⟨_, _, b3, _⟩ | ⟨b1, b2, b3, b4, w, b5, b6⟩ | ⟨b1, b2, b3, b4, b5, b6⟩ | ⟨b1, b2, b3, b4, b5, b6⟩
            · exact absurd b3 (by decide)
            · rw [b4]; decide
            · have lt := vl_lt (t := t) (s := s) (min 4 (P (j + 1) - s)) (fun i hi => (b4.2.1 (s + i) (by omega) (by omega)).2)
              have le : 10 ^ (min 4 (P (j + 1) - s)) ≤ 10 ^ 4 := Nat.pow_le_pow_right (by decide) (by omega)
              rw [b6]; exact nI_pos (by omega)
            · rw [b5]; decide
          have iso : r10_isIn (m 119 19) 0 (nI np - 1) = 1 := by
            rw [(num_e hs).2 kd]
            obtain ⟨x, hx, ex⟩ := nI_of nneg
            rw [ex, nI_leI (by omega) hx] at big
            refine isIn_1 nneg ?_
            rw [ex]
            cases np with
            | zero => exact absurd (Nat.zero_le x) big
            | succ np => rw [nI_pred]; exact nI_nlt (by omega) (by omega)
          obtain ⟨C5, M5, s1, s2, s3, s4, s5⟩ := blame_e hs (w := 3) (by decide)
          refine .inl ⟨.inl (0, C5), .inl (-1, M5), fun f hf => ?_, fun f _ => ?_, .inr ⟨C5, M5, .inl rfl, rfl, s3, FrC_t (RowR_C R) s4, FrM_t (RowR_M R) s5⟩⟩
          · show l4_row_4 (f + 1) _ _ _ = _
            rw [l4_row_4, if_neg one_n0, if_neg n6, if_neg nk0, kind_e hs, Option.bind_some, if_pos kd, if_pos e66, value_e hs, Option.bind_some, e8c, if_neg big, s1, Option.bind_some]
            show some (Sum.inl ((0 : Int32) &&& 1, C5)) = _
            rw [and1.2]
          · show l10_readPieces_21 _ (f + 1) _ _ = _
            rw [l10_readPieces_21, if_neg nk0, if_pos kd', if_pos e66, e6m, iso, if_neg one_n0, s2, Option.bind_some]
      · have nk6 : ¬ nI k = (6 : Int32) := by rw [nI_eqk 6 6 rfl (by decide) (by omega)]; exact k6
        refine take (by omega) (fun f => ?_) (fun f => ?_)
        · rw [l4_row_4, if_neg one_n0, if_neg n6, if_neg nk0, kind_e hs, Option.bind_some, if_pos kd, if_neg nk6, e8c, nI_1]
        · rw [l10_readPieces_21, if_neg nk0, if_pos kd', if_neg nk6, e6m, nI_1]
    · refine .inl ⟨.inr (nI k, 1, c), .inr (nI k, m), fun f _ => ?_, fun f _ => ?_, .inl ⟨k, c, m, j, rfl, rfl, by omega, h6, hs, R⟩⟩
      · show l4_row_4 (f + 1) _ _ _ = _
        rw [l4_row_4, if_neg one_n0, if_neg n6, if_neg nk0, kind_e hs, Option.bind_some, if_neg kd]
      · show l10_readPieces_21 _ (f + 1) _ _ = _
        rw [l10_readPieces_21, if_neg nk0, if_neg (fun q => kd ((num_e hs).1.mp q))]

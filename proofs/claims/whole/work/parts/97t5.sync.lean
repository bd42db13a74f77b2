/-! TEXT: both at the same token -/
def TE (C : mI) (t : Nat → Nat) (n J : Nat) (P : Nat → Nat) : Prop := J ≤ 400 ∧ TkC C t n (J + 1) P ∧ C 111 J = 129 ∧ (∀ i, i < J → ¬ C 111 i = 129) ∧ C 109 5 = nI (J + 1)
def Syn (C M : mI) (t : Nat → Nat) (n J : Nat) (P : Nat → Nat) (j : Nat) : Prop := TE C t n J P ∧ TapM M t n ∧ j ≤ J ∧ C 109 6 = nI j ∧ Cod (C 111 j) (C 112 j) (M 119 18) (M 119 19) ∧ M 119 17 = C 113 j ∧ M 119 16 = nI (P (j + 1))
/-- cells of the reference that a reading may write -/
def Sf (a i : Nat) : Prop := (a = 139 ∧ 144 ≤ i) ∨ (a = 140 ∧ 48 ≤ i) ∨ (a = 141 ∧ 12 ≤ i) ∨ ((132 ≤ a ∧ a ≤ 135) ∧ 32 ≤ i) ∨ ((a = 136 ∨ a = 137) ∧ 800 ≤ i) ∨ a = 138
def FrC (C C' : mI) : Prop := (∀ a, ¬ (a = 109 ∨ (114 ≤ a ∧ a ≤ 116)) → C' a = C a) ∧ (∀ k, k ≠ 6 → k ≠ 7 → k ≠ 11 → k ≠ 12 → C' 109 k = C 109 k)
def FrM (M M' : mI) : Prop := (∀ a i, a ≠ 119 → ¬ Sf a i → M' a i = M a i) ∧ (∀ k, ¬ (16 ≤ k ∧ k ≤ 19) → ¬ (29 ≤ k ∧ k ≤ 34) → M' 119 k = M 119 k)
theorem FrC_t {A B C : mI} (h1 : FrC A B) (h2 : FrC B C) : FrC A C := ⟨fun a x => (h2.1 a x).trans (h1.1 a x), fun k x y z w => (h2.2 k x y z w).trans (h1.2 k x y z w)⟩
theorem FrM_t {A B C : mI} (h1 : FrM A B) (h2 : FrM B C) : FrM A C := ⟨fun a i x y => (h2.1 a i x y).trans (h1.1 a i x y), fun k x y => (h2.2 k x y).trans (h1.2 k x y)⟩
theorem FrC_r (A : mI) : FrC A A := ⟨fun _ _ => rfl, fun _ _ _ _ _ => rfl⟩
theorem FrM_r (A : mI) : FrM A A := ⟨fun _ _ _ _ => rfl, fun _ _ _ => rfl⟩
theorem FrC_w {C : mI} {a i : Nat} {x : Int32} (h : 114 ≤ a ∧ a ≤ 116) : FrC C (mW C a i x) := ⟨fun b hb => mW_ne _ _ _ (by omega), fun k _ _ _ _ => by rw [mW_ne _ _ _ (by omega)]⟩
theorem FrC_9 {C : mI} {i : Nat} {x : Int32} (h : i = 6 ∨ i = 7 ∨ i = 11 ∨ i = 12) : FrC C (mW C 109 i x) := ⟨fun b hb => mW_ne _ _ _ (by omega), fun k _ _ _ _ => mW_off _ _ (by omega)⟩
theorem FrM_w {M : mI} {a i : Nat} {x : Int32} (h : Sf a i) (ha : a ≠ 119) : FrM M (mW M a i x) := ⟨fun b k hb hs => by
  rw [mW_rd]
  by_cases e : b = a
  · rw [if_pos e]
    by_cases e2 : k = i
    · exact absurd (e ▸ e2 ▸ h) hs
    · rw [if_neg e2]
  · rw [if_neg e], fun k _ _ => by rw [mW_ne _ _ _ (fun q => ha q.symm)]⟩
theorem FrM_9 {M : mI} {i : Nat} {x : Int32} (h : (16 ≤ i ∧ i ≤ 19) ∨ (29 ≤ i ∧ i ≤ 34)) : FrM M (mW M 119 i x) := ⟨fun b k hb _ => by rw [mW_ne _ _ _ hb], fun k h1 h2 => mW_off _ _ (by omega)⟩
theorem FrM_row {M M' : mI} (h : FrM M M') {a : Nat} (ha : ¬ (132 ≤ a ∧ a ≤ 141)) (h9 : a ≠ 119) : M' a = M a := by
  funext i
  refine h.1 a i h9 ?_
  unfold Sf
  omega
/-- the tokens stay where they are -/
theorem Syn_C {C C' M : mI} {t : Nat → Nat} {n J : Nat} {P : Nat → Nat} {j : Nat} (h : Syn C M t n J P j) (h1 : C' 111 = C 111) (h2 : C' 112 = C 112) (h3 : C' 113 = C 113) (h5 : C' 109 5 = C 109 5) (h6 : C' 109 6 = C 109 6) : Syn C' M t n J P j := by
  unfold Syn TE TkC at *
  rw [h1, h2, h3, h5, h6]; exact h
theorem Syn_M {C M M' : mI} {t : Nat → Nat} {n J : Nat} {P : Nat → Nat} {j : Nat} (h : Syn C M t n J P j) (h15 : M' 119 15 = M 119 15) (hr : M' 129 = M 129) (hw : M' 130 = M 130) (h16 : M' 119 16 = M 119 16) (h17 : M' 119 17 = M 119 17) (h18 : M' 119 18 = M 119 18) (h19 : M' 119 19 = M 119 19) : Syn C M' t n J P j := by
  unfold Syn TapM at *
  rw [h15, hr, hw, h16, h17, h18, h19]; exact h
theorem kind_e {C M : mI} {t : Nat → Nat} {n J : Nat} {P : Nat → Nat} {j : Nat} (h : Syn C M t n J P j) : r4_kind C = some (C 111 j) := by
  obtain ⟨⟨hJ, _⟩, _, hj, e6, _⟩ := h
  unfold r4_kind
  rw [e6, mLd_n (by omega) (by decide), Option.bind_some]
theorem value_e {C M : mI} {t : Nat → Nat} {n J : Nat} {P : Nat → Nat} {j : Nat} (h : Syn C M t n J P j) : mLd C 112 401 (C 109 6) = some (C 112 j) := by
  obtain ⟨⟨hJ, _⟩, _, hj, e6, _⟩ := h
  rw [e6, mLd_n (by omega) (by decide)]
theorem sgn_lt {c : Nat} (h : Sgn c = true) : 40 ≤ c ∧ c ≤ 62 := by
  unfold Sgn at h
  simp only [Bool.or_eq_true, beq_iff_eq] at h
  omega
theorem word_e {C M : mI} {t : Nat → Nat} {n J : Nat} {P : Nat → Nat} {j : Nat} (h : Syn C M t n J P j) {w : Nat} (hw : w < 27) : r10_isWord M (nI w) = if C 111 j = nI w then 1 else 0 := by
  have hc := h.2.2.2.2.1
  unfold r10_isWord
  rcases hc with ⟨c1, c2⟩ | ⟨c1, c2⟩ | ⟨x, hx, c1, c2, c3⟩ | ⟨c1, c2, c3⟩ | ⟨c, hc, hs, c1, c2, c3⟩
  · rw [c2, if_neg (by decide), if_neg (fun q => by rw [c1] at q; have := (nI_eqk 129 129 rfl (by decide) (by omega)).mp q.symm; omega)]
  · rw [c2, if_neg (by decide), if_neg (fun q => by rw [c1] at q; have := (nI_eqk 130 130 rfl (by decide) (by omega)).mp q.symm; omega)]
  · rw [c2, if_pos rfl, c3]
  · rw [c2, if_neg (by decide), if_neg (fun q => by rw [c1] at q; have := (nI_eqk 128 128 rfl (by decide) (by omega)).mp q.symm; omega)]
  · rw [c2, if_neg (by decide), if_neg (fun q => by rw [c1] at q; have := (nI_eq (by omega) (by omega)).mp q; have := sgn_lt hs; omega)]
theorem sign_e {C M : mI} {t : Nat → Nat} {n J : Nat} {P : Nat → Nat} {j : Nat} (h : Syn C M t n J P j) {w : Nat} (hw : 40 ≤ w ∧ w ≤ 62) : r10_isSign M (nI w) = if C 111 j = nI w then 1 else 0 := by
  have hc := h.2.2.2.2.1
  unfold r10_isSign
  rcases hc with ⟨c1, c2⟩ | ⟨c1, c2⟩ | ⟨x, hx, c1, c2, c3⟩ | ⟨c1, c2, c3⟩ | ⟨c, hc, hs, c1, c2, c3⟩
  · rw [c2, if_neg (by decide), if_neg (fun q => by rw [c1] at q; have := (nI_eqk 129 129 rfl (by decide) (by omega)).mp q.symm; omega)]
  · rw [c2, if_neg (by decide), if_neg (fun q => by rw [c1] at q; have := (nI_eqk 130 130 rfl (by decide) (by omega)).mp q.symm; omega)]
  · rw [c2, if_neg (by decide), if_neg (fun q => by rw [c1] at q; have := (nI_eq (by omega) (by omega)).mp q; omega)]
  · rw [c2, if_neg (by decide), if_neg (fun q => by rw [c1] at q; have := (nI_eqk 128 128 rfl (by decide) (by omega)).mp q.symm; omega)]
  · rw [c2, if_pos rfl, c3]
theorem num_e {C M : mI} {t : Nat → Nat} {n J : Nat} {P : Nat → Nat} {j : Nat} (h : Syn C M t n J P j) : (M 119 18 = 3 ↔ C 111 j = 128) ∧ (C 111 j = 128 → M 119 19 = C 112 j) := by
  have hc := h.2.2.2.2.1
  rcases hc with ⟨c1, c2⟩ | ⟨c1, c2⟩ | ⟨x, hx, c1, c2, c3⟩ | ⟨c1, c2, c3⟩ | ⟨c, hc, hs, c1, c2, c3⟩
  · rw [c1, c2]; exact ⟨⟨fun q => absurd q (by decide), fun q => absurd q (by decide)⟩, fun q => absurd q (by decide)⟩
  · rw [c1, c2]; exact ⟨⟨fun q => absurd q (by decide), fun q => absurd q (by decide)⟩, fun q => absurd q (by decide)⟩
  · rw [c2]
    have ne : ¬ C 111 j = 128 := fun q => by rw [c1] at q; have := (nI_eqk 128 128 rfl (by decide) (by omega)).mp q; omega
    exact ⟨⟨fun q => absurd q (by decide), fun q => absurd q ne⟩, fun q => absurd q ne⟩
  · rw [c1, c2]; exact ⟨⟨fun _ => rfl, fun _ => rfl⟩, fun _ => c3⟩
  · rw [c2]
    have ne : ¬ C 111 j = 128 := fun q => by rw [c1] at q; have := (nI_eqk 128 128 rfl (by decide) (by omega)).mp q; have := sgn_lt hs; omega
    exact ⟨⟨fun q => absurd q (by decide), fun q => absurd q ne⟩, fun q => absurd q ne⟩
theorem end_e {C M : mI} {t : Nat → Nat} {n J : Nat} {P : Nat → Nat} {j : Nat} (h : Syn C M t n J P j) : M 119 18 = 0 ↔ C 111 j = 129 := by
  have hc := h.2.2.2.2.1
  rcases hc with ⟨c1, c2⟩ | ⟨c1, c2⟩ | ⟨x, hx, c1, c2, c3⟩ | ⟨c1, c2, c3⟩ | ⟨c, hc, hs, c1, c2, c3⟩
  · rw [c1, c2]; exact ⟨fun _ => rfl, fun _ => rfl⟩
  · rw [c1, c2]; exact ⟨fun q => absurd q (by decide), fun q => absurd q (by decide)⟩
  · rw [c2]; exact ⟨fun q => absurd q (by decide), fun q => by rw [c1] at q; have := (nI_eqk 129 129 rfl (by decide) (by omega)).mp q; omega⟩
  · rw [c1, c2]; exact ⟨fun q => absurd q (by decide), fun q => absurd q (by decide)⟩
  · rw [c2]; exact ⟨fun q => absurd q (by decide), fun q => by rw [c1] at q; have := (nI_eqk 129 129 rfl (by decide) (by omega)).mp q; have := sgn_lt hs; omega⟩
/-- on to the next token -/
theorem step_s {C M : mI} {t : Nat → Nat} {n J : Nat} {P : Nat → Nat} {j : Nat} (h : Syn C M t n J P j) : ∃ C' M' j', r4_step C = some C' ∧ r10_reads M = some M' ∧ Syn C' M' t n J P j' ∧ (j' = j + 1 ∨ (j' = j ∧ j = J)) ∧ (∀ a, a ≠ 109 → C' a = C a) ∧ (∀ k, k ≠ 6 → C' 109 k = C 109 k) ∧ (∀ a, a ≠ 119 → M' a = M a) ∧ (∀ k, ¬ (16 ≤ k ∧ k ≤ 19) → M' 119 k = M 119 k) := by
  obtain ⟨⟨hJ, hT, h129, hn129, h5⟩, hTap, hj, e6, hc, h17, h16⟩ := h
  obtain ⟨s, t1, t2, t3, t4⟩ := hT.2 j (by omega)
  have pn := (Tok_lt t1 t3).2.2.1
  obtain ⟨M', κ, v, s', e', r1, r2, r3, r4, r5, r6, r7⟩ := reads_M hTap pn h16
  have hTap' : TapM M' t n := TapM_to hTap (r7 15 (by decide) (by decide) (by decide) (by decide)) (r6 129 (by decide)) (r6 130 (by decide))
  have st : r4_step C = some (if j < J then mW C 109 6 (nI (j + 1)) else C) := by
    unfold r4_step
    rw [h5, e6, nI_pred, nI_1]
    by_cases z : j < J
    · rw [if_neg (nI_ge z (by omega)), if_pos z, Option.bind_some]
    · rw [if_pos (nI_le (by omega) (by omega)), if_neg z, Option.bind_some]
  by_cases z : j < J
  · rw [if_pos z] at st
    obtain ⟨s2, u1, u2, u3, u4⟩ := hT.2 (j + 1) (by omega)
    obtain ⟨e1, e2, e3, e4⟩ := Tok_uniq r2 u1
    subst e1 e2 e3 e4
    refine ⟨mW C 109 6 (nI (j + 1)), M', j + 1, st, r1, ⟨⟨hJ, ?_, ?_, ?_, ?_⟩, hTap', by omega, mW_at _ _ _ _, ?_, ?_, r5⟩, .inl rfl, fun a ha => mW_ne _ _ _ ha, fun k hk => mW_off _ _ hk, r6, fun k hk => r7 k (by omega) (by omega) (by omega) (by omega)⟩
    · unfold TkC
      rw [mW_ne _ _ _ (show 111 ≠ 109 by decide), mW_ne _ _ _ (show 112 ≠ 109 by decide), mW_ne _ _ _ (show 113 ≠ 109 by decide)]
      exact hT
    · rw [mW_ne _ _ _ (by decide)]; exact h129
    · intro i hi
      rw [mW_ne _ _ _ (by decide)]; exact hn129 i hi
    · rw [mW_off _ _ (by decide)]; exact h5
    · rw [mW_ne _ _ _ (by decide), mW_ne _ _ _ (by decide)]; exact r3
    · rw [mW_ne _ _ _ (by decide), r4, u2]
  · have ej : j = J := by omega
    rw [if_neg z] at st
    subst ej
    rw [h129] at t1
    obtain ⟨a1, a2⟩ := t1
    have a2 : ¬ s < n ∧ P (j + 1) = s := by
      rcases a2 with ⟨b1, b2, _, _⟩ | ⟨b1, b2, b3, b4, w, b5, b6⟩ | ⟨b1, b2, b3, b4, b5, b6⟩ | ⟨b1, b2, b3, b4, b5, b6⟩
      · exact ⟨b1, b2⟩
      · exfalso
        cases w with
        | none => exact absurd b6 (by decide)
        | some i => have := (nI_eqk 129 129 rfl (by decide) (by have := b5.1; omega)).mp b6.symm; have := b5.1; omega
      · exfalso
        by_cases q : 4 < P (j + 1) - s
        · rw [if_pos q] at b5; exact absurd b5 (by decide)
        · rw [if_neg q] at b5; exact absurd b5 (by decide)
      · exfalso
        by_cases q : Sgn (t s) = true
        · rw [if_pos q] at b6
          have := sgn_lt q
          have := (nI_eqk 129 129 rfl (by decide) (by omega)).mp b6.symm
          omega
        · rw [if_neg q] at b6; exact absurd b6 (by decide)
    obtain ⟨a3, a4⟩ := a2
    rw [a4] at r2
    have stay : Tok t n s 129 0 s s := ⟨⟨Nat.le_refl _, fun q q1 q2 => by omega, fun x => a3 x.1⟩, .inl ⟨a3, rfl, rfl, rfl⟩⟩
    obtain ⟨e1, e2, e3, e4⟩ := Tok_uniq r2 stay
    subst e1 e2 e3 e4
    refine ⟨C, M', j, st, r1, ⟨⟨hJ, hT, h129, hn129, h5⟩, hTap', hj, e6, ?_, by rw [r4, t2], by rw [r5, a4]⟩, .inr ⟨rfl, rfl⟩, fun _ _ => rfl, fun _ _ => rfl, r6, fun k hk => r7 k (by omega) (by omega) (by omega) (by omega)⟩
    rw [h129]
    rcases r3 with ⟨x1, x2⟩ | ⟨x1, x2⟩ | ⟨x, hx, x1, x2, x3⟩ | ⟨x1, x2, x3⟩ | ⟨c, hc, hs, x1, x2, x3⟩
    · exact .inl ⟨rfl, x2⟩
    · exact absurd x1 (by decide)
    · have := (nI_eqk 129 129 rfl (by decide) (by omega)).mp x1.symm; omega
    · exact absurd x1 (by decide)
    · have := (nI_eqk 129 129 rfl (by decide) (by omega)).mp x1.symm; have := sgn_lt hs; omega
/-- a fault told on both sides -/
def Flt (C M : mI) : Prop := ¬ C 109 11 = 0 ∧ C 109 11 = M 119 33 ∧ C 109 12 = M 119 34
theorem blame_e {C M : mI} {t : Nat → Nat} {n J : Nat} {P : Nat → Nat} {j : Nat} (h : Syn C M t n J P j) {w : Int32} (hw : ¬ w = 0) : ∃ C' M', r4_blame C w = some (0, C') ∧ r10_errs M w = some (-1, M') ∧ Flt C' M' ∧ FrC C C' ∧ FrM M M' := by
  obtain ⟨⟨hJ, _⟩, _, hj, e6, _, h17, _⟩ := h
  refine ⟨mW (mW C 109 11 w) 109 12 (C 113 j), mW (mW M 119 33 w) 119 34 (M 119 17), ?_, rfl, ⟨?_, ?_, ?_⟩, FrC_t (FrC_9 (by omega)) (FrC_9 (by omega)), FrM_t (FrM_9 (by omega)) (FrM_9 (by omega))⟩
  · unfold r4_blame
    rw [e6, mLd_n (by omega) (by decide), Option.bind_some, mW_ne _ _ _ (show 113 ≠ 109 by decide)]
  · rw [mW_off _ _ (by decide), mW_at]; exact hw
  · rw [mW_off _ _ (by decide), mW_at, mW_off _ _ (by decide), mW_at]
  · rw [mW_at, mW_at, h17]

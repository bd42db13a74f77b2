/-! PLAY, ACT, DAYS, GOES, UNDO -/
theorem Inv_S {I J : mI} {s s' : Nat} (h : Inv I s) (hs' : s' = 3 ∨ s' = 35) (hS : RelS (J 3) (J 4) (J 5) (J 6) (J 7) (J 120)) (hw : WfS (J 120) (I 119 6) (I 119 7)) (hB : eqOn 600 (J 34) (J 128)) (hU : RU J J) (hr : ∀ a, (a = 0 ∨ (8 ≤ a ∧ a ≤ 13) ∨ (15 ≤ a ∧ a ≤ 32) ∨ (44 ≤ a ∧ a ≤ 76) ∨ a = 109 ∨ a = 110 ∨ (123 ≤ a ∧ a ≤ 127) ∨ (129 ≤ a ∧ a ≤ 137) ∨ (139 ≤ a ∧ a ≤ 141) ∨ a = 146 ∨ (149 ≤ a ∧ a ≤ 152) ∨ a = 154) → J a = I a) (hf : ∀ k, (k = 5 ∨ k = 6 ∨ k = 7 ∨ k = 15 ∨ k = 35 ∨ k = 36 ∨ k = 37 ∨ k = 39 ∨ k = 41 ∨ k = 48 ∨ k = 53 ∨ k = 59) → J 119 k = I 119 k) : Inv J s' := by
  obtain ⟨⟨_, hC, hP, hK, hL, hLw, hD, _⟩, _, hI, hT, hF, hX, _⟩ := h
  refine ⟨⟨⟨hS, ?_⟩, ?_, ?_, ?_, ?_, ?_, ?_, hB⟩, hU, ?_, ?_, ?_, ?_, hs'⟩
  · rw [hf 6 (by omega), hf 7 (by omega)]; exact hw
  · rw [hr 8 (by omega), hr 9 (by omega), hr 10 (by omega), hr 11 (by omega), hr 12 (by omega), hr 13 (by omega), hf 6 (by omega), hf 7 (by omega), hr 123 (by omega), hr 124 (by omega), hr 125 (by omega), hr 126 (by omega), hr 127 (by omega)]; exact hC
  · rw [hr 18 (by omega), hr 19 (by omega), hf 37 (by omega), hf 6 (by omega), hf 7 (by omega), hr 139 (by omega)]; exact hP
  · rw [hr 21 (by omega), hr 22 (by omega), hr 18 (by omega), hr 24 (by omega), hf 39 (by omega), hr 140 (by omega)]; exact hK
  · rw [hr 24 (by omega), hr 25 (by omega), hf 41 (by omega), hf 6 (by omega), hr 141 (by omega)]; exact hL
  · rw [hr 15 (by omega), hr 16 (by omega), hr 17 (by omega), hr 131 (by omega), hr 132 (by omega), hr 133 (by omega), hr 134 (by omega), hr 135 (by omega), hr 136 (by omega), hr 137 (by omega)]; exact hLw
  · rw [hr 27 (by omega), hr 28 (by omega), hr 29 (by omega), hr 30 (by omega), hr 31 (by omega), hr 32 (by omega), hf 48 (by omega), hf 53 (by omega), hr 146 (by omega), hr 149 (by omega), hr 150 (by omega), hr 151 (by omega), hr 152 (by omega)]; exact hD
  · unfold RelI at *
    rw [hr 0 (by omega), hf 59 (by omega), hr 154 (by omega)]
    refine ⟨hI.1, ?_⟩
    rcases hI.2 with q | q
    · exact .inl q
    · exact .inr ⟨q.1, RelW_congr (c := fun k => I (k + 42)) (G := unf (I 154)) (fun a ha => hr (a + 42) (by omega)) (fun a ha => rfl) (fun k hk => rfl) q.2⟩
  · rw [hr 109 (by omega), hr 110 (by omega), hr 129 (by omega), hf 15 (by omega)]; exact hT
  · rw [hr 109 (by omega), hf 35 (by omega), hf 36 (by omega)]; exact hF
  · rw [hf 5 (by omega), hr 130 (by omega)]; exact hX
theorem DW_mk {I C M : mI} {s t : Nat} (h : Inv I s) (hS : RelS (C t) (C (t + 1)) (C (t + 2)) (C (t + 3)) (C (t + 4)) (M 120)) (hw : WfS (M 120) (I 119 6) (I 119 7)) (hB : eqOn 600 (C 34) (M 128)) (hC : ∀ a, ((8 ≤ a ∧ a ≤ 13) ∨ (15 ≤ a ∧ a ≤ 32)) → C a = I a) (hM : ∀ a, ((123 ≤ a ∧ a ≤ 127) ∨ (131 ≤ a ∧ a ≤ 137) ∨ a = 139 ∨ a = 140) → M a = I a) (hf : ∀ k, (k = 6 ∨ k = 7 ∨ k = 37 ∨ k = 39) → M 119 k = I 119 k) (hm : (t = 3 ∧ C 1 3 = 1 ∧ M 119 5 = 0) ∨ (t = 35 ∧ C 1 3 = 0 ∧ M 119 5 = 1)) : DW C M t := by
  obtain ⟨⟨_, gC, gP, gK, gL, gLw, _⟩, _⟩ := h
  refine ⟨⟨⟨hS, ?_⟩, ?_, ?_, hB, hm⟩, ?_, ?_⟩
  · rw [hf 6 (by omega), hf 7 (by omega)]; exact hw
  · rw [hC 8 (by omega), hC 9 (by omega), hC 10 (by omega), hC 11 (by omega), hC 12 (by omega), hC 13 (by omega), hf 6 (by omega), hf 7 (by omega), hM 123 (by omega), hM 124 (by omega), hM 125 (by omega), hM 126 (by omega), hM 127 (by omega)]; exact gC
  · rw [hC 15 (by omega), hC 16 (by omega), hC 17 (by omega), hM 131 (by omega), hM 132 (by omega), hM 133 (by omega), hM 134 (by omega), hM 135 (by omega), hM 136 (by omega), hM 137 (by omega)]; exact gLw
  · rw [hC 18 (by omega), hC 19 (by omega), hf 37 (by omega), hf 6 (by omega), hf 7 (by omega), hM 139 (by omega)]; exact gP
  · rw [hC 21 (by omega), hC 22 (by omega), hf 39 (by omega), hM 140 (by omega)]; exact gK.1
theorem twice {I : mI} {A : Option (Int32 × mI × Nat)} {B : mI → Option (Int32 × mI)} {s1 : Nat} {Q : mI → mI → mI → Prop} (h : ∀ M, (∀ a, 119 ≤ a → M a = I a) → ∃ v C' M', A = some (v, C', s1) ∧ B M = some (v, M') ∧ (∀ a, 119 ≤ a → C' a = I a) ∧ Q M C' M') : ∃ v C' M', A = some (v, C', s1) ∧ B C' = some (v, M') ∧ (∀ a, 119 ≤ a → C' a = I a) ∧ Q C' C' M' := by
  obtain ⟨v, C', M', a, b, c, d⟩ := h I (fun _ _ => rfl)
  obtain ⟨v2, C2, M2, a2, b2, c2, d2⟩ := h C' c
  rw [a] at a2
  have e := Option.some.inj a2
  have e1 : v = v2 := congrArg Prod.fst e
  have e2 : C' = C2 := congrArg (fun z => z.2.1) e
  subst e1 e2
  exact ⟨v, C', M2, a, b2, c, d2⟩
/-- how far a run has come -/
def Fin (I M C' M' : mI) : Prop := DW C' M' 3 ∧ RU C' M' ∧ (∀ a, ¬ (a = 1 ∨ (3 ≤ a ∧ a ≤ 7) ∨ a = 34 ∨ a = 40 ∨ a = 41 ∨ (77 ≤ a ∧ a < 109)) → C' a = I a) ∧ (∀ a, ¬ (a = 119 ∨ a = 120 ∨ a = 121 ∨ a = 128 ∨ a = 142 ∨ a = 143) → M' a = M a) ∧ (∀ k, k ≠ 0 → k ≠ 3 → M' 119 k = M 119 k)
theorem Fin_step {I M C1 M1 C2 M2 : mI} (h : Fin I M C1 M1) (hP : DW C2 M2 3) (F : frC 3 C1 C2) (G : frM M1 M2) : Fin I M C2 M2 := by
  obtain ⟨_, U, f, g, k⟩ := h
  have e119 : M2 119 = M1 119 := G 119 (by decide) (by decide) (by decide) (by decide)
  exact ⟨hP, RU_to U (fun a h1 h2 => F a (by omega) (by omega) (by omega) (by omega)) (G 121 (by decide) (by decide) (by decide) (by decide)) (by rw [e119]) (by rw [e119]) (by rw [e119]), fun a ha => by rw [F a (by omega) (by omega) (by omega) (by omega), f a ha], fun a ha => by rw [G a (by omega) (by omega) (by omega) (by omega), g a ha], fun a h0 h3 => by rw [e119, k a h0 h3]⟩
theorem Fin_PW {I M C1 M1 C2 M2 : mI} (h : Fin I M C1 M1) (hP : PW C2 M2 3) (F : frC 3 C1 C2) (G : frM M1 M2) : Fin I M C2 M2 := Fin_step h (DW_fr h.1 hP F G) F G
theorem Fin_0 {I M : mI} {s : Nat} (h : Inv I s) (hM : ∀ a, 119 ≤ a → M a = I a) : Fin I M (mW I 1 3 1) (mW M 119 0 0) := by
  have hf : ∀ k, k ≠ 0 → (mW M 119 0 0) 119 k = I 119 k := fun k hk => by rw [mW_off _ _ hk, hM 119 (by decide)]
  have hr : ∀ a, 119 < a → (mW M 119 0 0) a = I a := fun a ha => by rw [mW_ne _ _ _ (by omega), hM a (by omega)]
  refine ⟨DW_mk h ?_ ?_ ?_ (fun a ha => mW_ne _ _ _ (by omega)) (fun a ha => hr a (by omega)) (fun k hk => hf k (by omega)) (.inl ⟨rfl, mW_at _ _ _ _, ?_⟩), RU_to (C := I) (M := I) h.2.1 (fun a h1 h2 => mW_ne _ _ _ (by omega)) (hr 121 (by decide)) (hf 3 (by decide)) (hf 6 (by decide)) (hf 7 (by decide)), fun a ha => mW_ne _ _ _ (by omega), fun a ha => mW_ne _ _ _ (by omega), fun k h0 _ => mW_off _ _ h0⟩
  · rw [hr 120 (by decide)]; exact h.1.1.1
  · rw [hr 120 (by decide)]; exact h.1.1.2
  · rw [hr 128 (by decide)]; exact h.1.2.2.2.2.2.2.2
  · rw [hf 5 (by decide)]; exact h.2.2.2.2.2.1.1
theorem Fin_keep {I M C1 M1 : mI} (h : Fin I M C1 M1) : ∃ C2 M2, r3_keep C1 = some C2 ∧ r10_keepsAhead M1 = some M2 ∧ Fin I M C2 M2 := by
  obtain ⟨⟨P, hRP, hRK⟩, U, f, g, k⟩ := h
  obtain ⟨C2, M2, q1, q2, U2, F, G, K⟩ := keep_e U P.1.1 P.1.2
  refine ⟨C2, M2, q1, q2, ⟨?_, ?_, ?_⟩, U2, fun a ha => by rw [F a (by omega), f a ha], fun a ha => by rw [G a (by omega) (by omega), g a ha], fun a h0 h3 => by rw [K a h3, k a h0 h3]⟩
  · unfold PW at *
    rw [F 3 (by omega), F (3 + 1) (by omega), F (3 + 2) (by omega), F (3 + 3) (by omega), F (3 + 4) (by omega), F 8 (by omega), F 9 (by omega), F 10 (by omega), F 11 (by omega), F 12 (by omega), F 13 (by omega), F 15 (by omega), F 16 (by omega), F 17 (by omega), F 34 (by omega), F 1 (by omega), G 120 (by decide) (by decide), K 6 (by decide), K 7 (by decide), K 5 (by decide), G 123 (by decide) (by decide), G 124 (by decide) (by decide), G 125 (by decide) (by decide), G 126 (by decide) (by decide), G 127 (by decide) (by decide), G 131 (by decide) (by decide), G 132 (by decide) (by decide), G 133 (by decide) (by decide), G 134 (by decide) (by decide), G 135 (by decide) (by decide), G 136 (by decide) (by decide), G 137 (by decide) (by decide), G 128 (by decide) (by decide)]
    exact P
  · rw [F 18 (by omega), F 19 (by omega), K 37 (by decide), K 6 (by decide), K 7 (by decide), G 139 (by decide) (by decide)]; exact hRP
  · rw [F 21 (by omega), F 22 (by omega), K 39 (by decide), G 140 (by decide) (by decide)]; exact hRK
theorem Fin_end {I C' M' : mI} {s : Nat} (h : Inv I s) (hC : ∀ a, 119 ≤ a → C' a = I a) (hF : Fin I C' C' M') : Inv M' 3 := by
  obtain ⟨⟨P, _⟩, U, f, g, k⟩ := hF
  have lo : ∀ a, a < 119 → M' a = C' a := fun a ha => g a (by omega)
  have fl : ∀ j, j ≠ 0 → j ≠ 3 → M' 119 j = I 119 j := fun j h0 h3 => by rw [k j h0 h3, hC 119 (by decide)]
  refine Inv_S h (.inl rfl) ?_ ?_ ?_ (RU_to U (fun a h1 h2 => lo a (by omega)) rfl rfl rfl rfl) (fun a ha => ?_) (fun j hj => fl j (by omega) (by omega))
  · rw [lo 3 (by decide), lo 4 (by decide), lo 5 (by decide), lo 6 (by decide), lo 7 (by decide)]
    exact P.1.1
  · have := P.1.2
    rw [fl 6 (by decide) (by decide), fl 7 (by decide) (by decide)] at this
    exact this
  · rw [lo 34 (by decide)]; exact P.2.2.2.1
  · by_cases z : a < 119
    · rw [lo a z, f a (by omega)]
    · rw [g a (by omega), hC a (by omega)]
theorem op_fin {I : mI} {s : Nat} (hI : Inv I s) {A : Option (Int32 × mI × Nat)} {B : mI → Option (Int32 × mI)} (h : ∀ M, (∀ a, 119 ≤ a → M a = I a) → ∃ v C' M', A = some (v, C', 3) ∧ B M = some (v, M') ∧ Fin I M C' M') : ∃ (v : Int32) (I1 : mI) (s1 : Nat) (I2 : mI), A = some (v, I1, s1) ∧ B I1 = some (v, I2) ∧ Inv I2 s1 := by
  obtain ⟨v, C', M', a, b, c, d⟩ := twice (I := I) (A := A) (B := B) (s1 := 3) (Q := fun M C' M' => Fin I M C' M') (fun M hM => by
    obtain ⟨v, C', M', a, b, d⟩ := h M hM
    exact ⟨v, C', M', a, b, fun x hx => d.2.2.1 x (by omega), d⟩)
  exact ⟨v, C', 3, M', a, b, Fin_end hI c d⟩
/-- kept, then awake -/
theorem Fin_start {I M : mI} {s : Nat} (h : Inv I s) (hM : ∀ a, 119 ≤ a → M a = I a) : ∃ C1 M1, r3_keep I = some C1 ∧ r10_keepsAhead (mW M 119 0 0) = some M1 ∧ Fin I M (mW C1 1 3 1) M1 := by
  obtain ⟨P, U, f, g, k⟩ := Fin_0 h hM
  obtain ⟨C1, M1, q1, q2, U2, F, G, K⟩ := keep_e (C := I) (M := mW M 119 0 0) (RU_to U (fun a h1 h2 => (mW_ne _ _ _ (by omega)).symm) rfl rfl rfl rfl) P.1.1.1 P.1.1.2
  refine ⟨C1, M1, q1, q2, ?_, RU_to U2 (fun a h1 h2 => mW_ne _ _ _ (by omega)) rfl rfl rfl rfl, fun a ha => by rw [mW_ne _ _ _ (by omega), F a (by omega)], fun a ha => by rw [G a (by omega) (by omega), g a ha], fun a h0 h3 => by rw [K a h3, k a h0 h3]⟩
  have C2 : ∀ a, ¬ a = 1 → ¬ (77 ≤ a ∧ a < 109) → (mW C1 1 3 1) a = I a := fun a h1 h2 => by rw [mW_ne _ _ _ h1, F a h2]
  have M2 : ∀ a, 121 < a → M1 a = I a := fun a ha => by rw [G a (by omega) (by omega), mW_ne _ _ _ (by omega), hM a (by omega)]
  have M120 : M1 120 = I 120 := by rw [G 120 (by decide) (by decide), mW_ne _ _ _ (by decide), hM 120 (by decide)]
  have K2 : ∀ j, j ≠ 0 → j ≠ 3 → M1 119 j = I 119 j := fun j h0 h3 => by rw [K j h3, k j h0 h3, hM 119 (by decide)]
  refine DW_mk h ?_ ?_ ?_ (fun a ha => C2 a (by omega) (by omega)) (fun a ha => M2 a (by omega)) (fun j hj => K2 j (by omega) (by omega)) (.inl ⟨rfl, mW_at _ _ _ _, ?_⟩)
  · rw [C2 3 (by omega) (by omega), C2 (3 + 1) (by omega) (by omega), C2 (3 + 2) (by omega) (by omega), C2 (3 + 3) (by omega) (by omega), C2 (3 + 4) (by omega) (by omega), M120]; exact h.1.1.1
  · rw [M120]; exact h.1.1.2
  · rw [C2 34 (by omega) (by omega), M2 128 (by decide)]; exact h.1.2.2.2.2.2.2.2
  · rw [K2 5 (by decide) (by decide)]; exact h.2.2.2.2.2.1.1
theorem op_play : S_play Inv := by
  intro I s h x0 x1
  obtain ⟨np, nq, hnp, hnq, en1, en2, en3, en4⟩ := RelC_n h.1
  have m6 : ∀ M : mI, (∀ a, 119 ≤ a → M a = I a) → (mW M 119 0 0) 119 6 = nI np := fun M hM => by rw [mW_off _ _ (by decide), hM 119 (by decide), en2]
  have m7 : ∀ M : mI, (∀ a, 119 ≤ a → M a = I a) → (mW M 119 0 0) 119 7 = nI nq := fun M hM => by rw [mW_off _ _ (by decide), hM 119 (by decide), en4]
  by_cases a : r0_hasPlayer I x0 = 0
  · refine ex3 (v := -1) (v' := -1) (I1 := I) (s1 := s) (I2 := mW I 119 0 0) ?_ ?_ rfl (Inv_told 0 h)
    · unfold r9_play r0_knows
      rw [if_pos a, if_pos rfl]
    · unfold r10_play
      rw [isPlayer_e hnq en3 (m7 I (fun _ _ => rfl)), if_pos a]
  by_cases b : r0_hasPiece I x1 = 0
  · refine ex3 (v := -1) (v' := -1) (I1 := I) (s1 := s) (I2 := mW I 119 0 0) ?_ ?_ rfl (Inv_told 0 h)
    · unfold r9_play r0_knows
      rw [if_neg a, if_pos b, if_pos rfl]
    · unfold r10_play
      rw [isPlayer_e hnq en3 (m7 I (fun _ _ => rfl)), if_neg a, isPiece_e hnp en1 (m6 I (fun _ _ => rfl)), if_pos b]
  obtain ⟨p, hp, rfl⟩ := hasPlayer_t hnq en3 a
  obtain ⟨q, hq, rfl⟩ := hasPiece_t hnp en1 b
  refine op_fin h (fun M hM => ?_)
  obtain ⟨C1, M1, q1, q2, F1⟩ := Fin_start h hM
  have k119 : ∀ j, j ≠ 0 → j ≠ 3 → M1 119 j = I 119 j := fun j h0 h3 => by rw [F1.2.2.2.2 j h0 h3, hM 119 (by decide)]
  obtain ⟨v, C3, M3, g1, g2, P3, F3, G3, _⟩ := perform_e F1.1.1 (p := p) (q := q) (by omega) (by omega) (by rw [k119 7 (by decide) (by decide), en4]; exact nI_lt hp (by omega)) (by rw [k119 6 (by decide) (by decide), en2]; exact nI_lt hq (by omega))
  refine ⟨v, C3, M3, ?_, ?_, Fin_PW F1 P3 F3 G3⟩
  · unfold r9_play
    rw [knows_y hnp hnq en1 en3 hp hq, if_neg one_n0, q1, Option.bind_some]
    unfold r5_wake
    rw [Option.bind_some, g1, Option.bind_some]
  · unfold r10_play
    rw [isPlayer_e hnq en3 (m7 M hM), if_neg a, isPiece_e hnp en1 (m6 M hM), if_neg b, q2, Option.bind_some, g2, Option.bind_some]
theorem op_days : S_days Inv := by
  intro I s h x0
  have bad : r9_days I s x0 = some (-1, I, s) → r10_days I x0 = some (-1, mW I 119 0 0) → ∃ (v : Int32) (I1 : mI) (s1 : Nat) (I2 : mI), r9_days I s x0 = some (v, I1, s1) ∧ r10_days I1 x0 = some (v, I2) ∧ Inv I2 s1 := fun e1 e2 => ex3 e1 e2 rfl (Inv_told 0 h)
  have e10 : I 3 10 = I 120 0 := h.1.1.1.1.2.2.2.2.2.2.1
  by_cases a : x0 < 1
  · refine bad ?_ ?_
    · unfold r9_days; rw [if_pos a]
    · unfold r10_days; rw [isIn_0a a, if_pos rfl]
  by_cases b : 20 < x0
  · refine bad ?_ ?_
    · unfold r9_days; rw [if_neg a, if_pos b]
    · unfold r10_days; rw [isIn_0b b, if_pos rfl]
  by_cases c : I 120 0 + x0 ≤ 9999
  · obtain ⟨n, hn, rfl⟩ := bd_of (x := x0) (M := 20) (n := 20) (by decide) (lt0_of (c := 1) (by decide) a) b
    refine op_fin h (fun M hM => ?_)
    obtain ⟨⟨x, C'⟩, ⟨y, M'⟩, q1, q2, exy, F⟩ := loop2x (fun f k (a : Int32 × mI) => l9_days_42 3 (nI n) f a.1 (nI k) a.2) (fun f k (b : Int32 × mI) => l10_days_36 (nI n) f b.1 (nI k) b.2) (fun k a b => a.1 = b.1 ∧ Fin I M a.2 b.2) (fun a b => a.1 = b.1 ∧ Fin I M a.2 b.2) n
      (fun a b ⟨e, F⟩ => ⟨a, b, fun f => by show l9_days_42 _ _ (f + 1) _ _ _ = _; rw [l9_days_42, if_pos (by rw [i32_le]; omega)], fun f => by show l10_days_36 _ (f + 1) _ _ _ = _; rw [l10_days_36, if_pos (by rw [i32_le]; omega)], e, F⟩)
      (fun k a b hk ⟨e, F⟩ => by
        obtain ⟨y, a⟩ := a
        obtain ⟨y', b⟩ := b
        have e : y = y' := e
        subst e
        have F : Fin I M a b := F
        obtain ⟨C1, M1, k1, k2, F1⟩ := Fin_keep F
        obtain ⟨v, C2, M2, d1, d2, D2, f2, g2⟩ := day_e F1.1
        refine .inr ⟨(y + v, C2), (y + v, M2), fun f _ => ?_, fun f _ => ?_, rfl, Fin_step F1 D2 f2 g2⟩
        · show l9_days_42 _ _ (f + 1) y _ a = _
          rw [l9_days_42, if_neg (nI_ge hk (by omega)), k1, Option.bind_some, d1, Option.bind_some, nI_1]
        · show l10_days_36 _ (f + 1) y _ b = _
          rw [l10_days_36, if_neg (nI_ge hk (by omega)), k2, Option.bind_some, d2, Option.bind_some, nI_1]) n 0 FU FU (0, mW I 1 3 1) (0, mW M 119 0 0) (by omega) (FU_lt (by omega)) (FU_lt (by omega)) ⟨rfl, Fin_0 h hM⟩
    have exy : x = y := exy
    subst exy
    refine ⟨x, C', M', ?_, ?_, F⟩
    · unfold r9_days r5_wake
      rw [if_neg a, if_neg b, e10, if_pos c, Option.bind_some]
      rw [show l9_days_42 3 (nI n) FU 0 0 (mW I 1 3 1) = some (x, C') from q1, Option.bind_some]
    · unfold r10_days
      rw [isIn_1 a b, if_neg one_n0, hM 120 (by decide), if_pos c]
      rw [show l10_days_36 (nI n) FU 0 0 (mW M 119 0 0) = some (x, M') from q2, Option.bind_some]
  · refine bad ?_ ?_
    · unfold r9_days; rw [if_neg a, if_neg b, e10, if_neg c]
    · unfold r10_days; rw [isIn_1 a b, if_neg one_n0, if_neg c]
theorem op_act : S_act Inv := by
  intro I s h x0 x1
  have bad : r9_act I s x0 x1 = some (0, I, s) → r10_canAct (mW I 119 0 0) x0 x1 = some 0 → ∃ (v : Int32) (I1 : mI) (s1 : Nat) (I2 : mI), r9_act I s x0 x1 = some (v, I1, s1) ∧ r10_act I1 x0 x1 = some (v, I2) ∧ Inv I2 s1 := fun e1 e2 => ex3 (v' := 0) (I2 := mW I 119 0 0) e1 (by unfold r10_act; rw [e2, Option.bind_some, if_pos rfl]) rfl (Inv_told 0 h)
  have hS := h.1.1.1
  by_cases c0 : x0 = 0
  · subst c0
    by_cases s0 : x1 < 0
    · refine bad ?_ ?_
      · unfold r9_act
        simp (decide := true) only [reduceIte, Option.bind_some, if_pos s0]
      · unfold r10_canAct
        rw [if_pos rfl, isString_l, if_pos s0, if_pos rfl]
        rfl
    by_cases s8 : (8 : Int32) ≤ x1
    · refine bad ?_ ?_
      · unfold r9_act
        simp (decide := true) only [reduceIte, Option.bind_some, if_neg s0, if_pos s8]
      · unfold r10_canAct
        rw [if_pos rfl, isString_l, if_neg s0, if_neg (i32_nlt.mpr s8), if_pos rfl]
        rfl
    obtain ⟨k, hk, rfl⟩ := ix_of (n := 8) s0 s8 (by decide)
    have e7 : I 7 k = I 120 (9 + k) := hS.2.1 k hk
    have isS : r10_isString (nI k) = 1 := by rw [isString_l, if_neg s0, if_pos (i32_nle.mp s8)]
    by_cases z : I 120 (9 + k) ≤ 0
    · refine bad ?_ ?_
      · unfold r9_act
        simp (decide := true) only [reduceIte, Option.bind_some, if_neg s0, if_neg s8, mLd_n hk (show 8 < 2 ^ 31 by decide), e7, if_pos z]
      · unfold r10_canAct
        rw [if_pos rfl, isS, if_neg one_n0, nI_addl (show (9 : Int32) = nI 9 by decide), mLd_n (by omega) (by decide), Option.bind_some, mW_ne _ _ _ (show 120 ≠ 119 by decide), if_pos z]
        rfl
    · refine op_fin h (fun M hM => ?_)
      obtain ⟨C1, M1, q1, q2, F1⟩ := Fin_start h hM
      obtain ⟨C3, M3, g1, g2, P3, F3, G3⟩ := tune_PW F1.1.1 hk
      refine ⟨1, C3, M3, ?_, ?_, Fin_PW F1 P3 F3 G3⟩
      · unfold r9_act r5_wake
        simp (decide := true) only [reduceIte, Option.bind_some, if_neg s0, if_neg s8, mLd_n hk (show 8 < 2 ^ 31 by decide), e7, if_neg z, q1, g1]
      · unfold r10_act
        have cA : r10_canAct (mW M 119 0 0) 0 (nI k) = some 1 := by
          unfold r10_canAct
          rw [if_pos rfl, isS, if_neg one_n0, nI_addl (show (9 : Int32) = nI 9 by decide), mLd_n (by omega) (by decide), Option.bind_some, mW_ne _ _ _ (show 120 ≠ 119 by decide), hM 120 (by decide), if_neg z]
          rfl
        rw [cA, Option.bind_some, if_neg one_n0, q2]
        simp (decide := true) only [reduceIte, Option.bind_some, g2]
  by_cases c1 : x0 = 1
  · subst c1
    have e5 : I 3 5 = I 120 4 := hS.1.2.1
    by_cases z : I 120 4 ≤ 0
    · refine bad ?_ ?_
      · unfold r9_act
        simp (decide := true) only [reduceIte, Option.bind_some, e5, if_pos z]
      · unfold r10_canAct
        rw [if_neg one_n0, if_pos rfl, mW_ne _ _ _ (show 120 ≠ 119 by decide), if_pos z]
        rfl
    · refine op_fin h (fun M hM => ?_)
      obtain ⟨C1, M1, q1, q2, F1⟩ := Fin_start h hM
      obtain ⟨C3, M3, g1, g2, P3, F3, G3⟩ := empty_PW F1.1.1
      refine ⟨1, C3, M3, ?_, ?_, Fin_PW F1 P3 F3 G3⟩
      · unfold r9_act r5_wake
        simp (decide := true) only [reduceIte, Option.bind_some, e5, if_neg z, q1, g1]
      · unfold r10_act
        have cA : r10_canAct (mW M 119 0 0) 1 x1 = some 1 := by
          unfold r10_canAct
          rw [if_neg one_n0, if_pos rfl, mW_ne _ _ _ (show 120 ≠ 119 by decide), hM 120 (by decide), if_neg z]
          rfl
        rw [cA, Option.bind_some, if_neg one_n0, q2]
        simp (decide := true) only [reduceIte, Option.bind_some, g2]
  by_cases c2 : x0 = 2
  · subst c2
    by_cases s0 : x1 < 1
    · refine bad ?_ ?_
      · unfold r9_act
        simp (decide := true) only [reduceIte, Option.bind_some, if_pos s0]
      · unfold r10_canAct
        rw [if_neg (by decide), if_neg (by decide), if_pos rfl, isIn_0a s0, if_pos rfl]
        rfl
    by_cases s8 : (99 : Int32) < x1
    · refine bad ?_ ?_
      · unfold r9_act
        simp (decide := true) only [reduceIte, Option.bind_some, if_neg s0, if_pos s8]
      · unfold r10_canAct
        rw [if_neg (by decide), if_neg (by decide), if_pos rfl, isIn_0b s8, if_pos rfl]
        rfl
    refine op_fin h (fun M hM => ?_)
    obtain ⟨C1, M1, q1, q2, F1⟩ := Fin_start h hM
    obtain ⟨C3, M3, g1, g2, P3, F3, G3⟩ := child_PW F1.1.1 x1
    refine ⟨1, C3, M3, ?_, ?_, Fin_PW F1 P3 F3 G3⟩
    · unfold r9_act r5_wake
      simp (decide := true) only [reduceIte, Option.bind_some, if_neg s0, if_neg s8, q1, g1]
    · unfold r10_act
      have cA : r10_canAct (mW M 119 0 0) 2 x1 = some 1 := by
        unfold r10_canAct
        rw [if_neg (by decide), if_neg (by decide), if_pos rfl, isIn_1 s0 s8, if_neg one_n0]
        rfl
      rw [cA, Option.bind_some, if_neg one_n0, q2]
      simp (decide := true) only [reduceIte, Option.bind_some, g2]
  · refine bad ?_ ?_
    · unfold r9_act
      simp only [if_neg c0, if_neg c1, if_neg c2, reduceIte, Option.bind_some]
    · unfold r10_canAct
      rw [if_neg c0, if_neg c1, if_neg c2]
      rfl

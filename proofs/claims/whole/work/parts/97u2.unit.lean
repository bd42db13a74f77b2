/-! TEXT: a number or a value of the law, in step -/
def EF (C C' M M' : mI) : Prop := (∀ a, a ≠ 109 → a ≠ 114 → a ≠ 116 → C' a = C a) ∧ (∀ k, k ≠ 3 → C' 114 k = C 114 k) ∧ (∀ k, k ≠ 6 → C' 109 k = C 109 k) ∧ (∀ a, a ≠ 119 → a ≠ 136 → a ≠ 137 → M' a = M a) ∧ (∀ k, ¬ (16 ≤ k ∧ k ≤ 19) → k ≠ 29 → M' 119 k = M 119 k) ∧ FrM M M'
theorem EF_t {A A' A'' B B' B'' : mI} (h : EF A A' B B') (h' : EF A' A'' B' B'') : EF A A'' B B'' := by
  obtain ⟨a, b, c, d, e, f⟩ := h
  obtain ⟨a', b', c', d', e', f'⟩ := h'
  exact ⟨fun x p q r => (a' x p q r).trans (a x p q r), fun k p => (b' k p).trans (b k p), fun k p => (c' k p).trans (c k p), fun x p q r => (d' x p q r).trans (d x p q r), fun k p q => (e' k p q).trans (e k p q), FrM_t f f'⟩
theorem EF_r (A B : mI) : EF A A B B := ⟨fun _ _ _ _ => rfl, fun _ _ => rfl, fun _ _ => rfl, fun _ _ _ _ => rfl, fun _ _ _ => rfl, FrM_r _⟩
theorem EF_C {A A' B B' : mI} (h : EF A A' B B') : FrC A A' := ⟨fun a ha => h.1 a (by omega) (by omega) (by omega), fun k h6 _ _ _ => h.2.2.1 k h6⟩
theorem EF_step {C C' M M' : mI} (h : fsC C C') (h' : fsM M M') : EF C C' M M' := ⟨fun a h9 _ _ => h.1 a h9, fun k _ => by rw [h.1 114 (by decide)], h.2, fun a h9 _ _ => h'.1 a h9, fun k hk _ => h'.2 k hk, fsM_F h'⟩
/-- a fault in the law: the class's count still counts -/
def FltL (C C0 M M0 : mI) : Prop := Flt C M ∧ FrC C0 C ∧ FrM M0 M ∧ ∃ u, u ≤ 400 ∧ C 114 3 = nI u
theorem val_lt {C M : mI} {t : Nat → Nat} {n J : Nat} {P : Nat → Nat} {j : Nat} (h : Syn C M t n J P j) (kd : C 111 j = 128) : ∃ a, a ≤ 9999 ∧ C 112 j = nI a := by
  obtain ⟨⟨_, hT, _⟩, _, hj, _⟩ := h
  obtain ⟨s, t1, _⟩ := hT.2 j (by omega)
  rw [kd] at t1
  obtain ⟨_, b⟩ := t1
  rcases b with ⟨_, _, b3, _⟩ | ⟨b1, b2, b3, b4, w, b5, b6⟩ | ⟨b1, b2, b3, b4, b5, b6⟩ | ⟨b1, b2, b3, b4, b5, b6⟩
  · exact absurd b3 (by decide)
  · exact ⟨0, by omega, b4⟩
  · have lt := vl_lt (t := t) (s := s) (min 4 (P (j + 1) - s)) (fun i hi => (b4.2.1 (s + i) (by omega) (by omega)).2)
    have le : 10 ^ (min 4 (P (j + 1) - s)) ≤ 10 ^ 4 := Nat.pow_le_pow_right (by decide) (by omega)
    exact ⟨_, by omega, b6⟩
  · exact ⟨0, by omega, b5⟩
/-- a step that is no end -/
theorem step_j {C M : mI} {t : Nat → Nat} {n J : Nat} {P : Nat → Nat} {j : Nat} (h : Syn C M t n J P j) (hne : ¬ C 111 j = 129) : ∃ C' M', r4_step C = some C' ∧ r10_reads M = some M' ∧ Syn C' M' t n J P (j + 1) ∧ fsC C C' ∧ fsM M M' := by
  obtain ⟨C', M', j', s1, s2, s3, s4, s5, s6, s7, s8⟩ := step_s h
  have jJ : j < J := by
    apply Classical.byContradiction
    intro hn
    have : j = J := by have := h.2.2.1; omega
    rw [this] at hne
    exact hne h.1.2.2.1
  have : j' = j + 1 := by omega
  subst this
  exact ⟨C', M', s1, s2, s3, ⟨s5, s6⟩, ⟨s7, s8⟩⟩
theorem Syn_j {C M : mI} {t : Nat → Nat} {n J : Nat} {P : Nat → Nat} {j : Nat} (h : Syn C M t n J P j) (hne : ¬ C 111 j = 129) : j < 400 := by
  have a := h.1.1
  have b := h.2.2.1
  apply Classical.byContradiction
  intro hn
  have : j = J := by omega
  rw [this] at hne
  exact hne h.1.2.2.1
theorem CR_fs {C C' M M' : mI} {u c : Nat} (h : CR C M u c) (hC : fsC C C') (hM : fsM M M') : CR C' M' u c := by
  unfold CR at *
  rw [hC.1 114 (by decide), hC.1 116 (by decide), hM.2 29 (by omega), hM.1 136 (by decide), hM.1 137 (by decide)]
  exact h
theorem Syn_em {C C' M M' : mI} {t : Nat → Nat} {n J : Nat} {P : Nat → Nat} {j : Nat} (h : Syn C M t n J P j) (hC : ∀ a, a ≠ 114 → a ≠ 116 → C' a = C a) (hM : ∀ a, a ≠ 119 → a ≠ 136 → a ≠ 137 → M' a = M a) (hf : ∀ k, k ≠ 29 → M' 119 k = M 119 k) : Syn C' M' t n J P j := Syn_M (Syn_C h (hC 111 (by decide) (by decide)) (hC 112 (by decide) (by decide)) (hC 113 (by decide) (by decide)) (by rw [hC 109 (by decide) (by decide)]) (by rw [hC 109 (by decide) (by decide)])) (hf 15 (by decide)) (hM 129 (by decide) (by decide) (by decide)) (hM 130 (by decide) (by decide) (by decide)) (hf 16 (by decide)) (hf 17 (by decide)) (hf 18 (by decide)) (hf 19 (by decide))
theorem blame_L {C M : mI} {t : Nat → Nat} {n J : Nat} {P : Nat → Nat} {j u c : Nat} (h : Syn C M t n J P j) (hR : CR C M u c) {w : Int32} (hw : ¬ w = 0) : ∃ C' M', ((r4_blame C w).bind fun z1 => some (z1.1 &&& 1, z1.2)) = some ((0 : Int32), C') ∧ r10_errs M w = some (-1, M') ∧ FltL C' C M' M := by
  obtain ⟨C', M', b1, b2, b3, b4, b5⟩ := blame_e h hw
  refine ⟨C', M', ?_, b2, b3, b4, b5, u, by have := CR_u hR; have := hR.2.2.2.2; omega, ?_⟩
  · rw [b1, Option.bind_some]
    show some ((0 : Int32) &&& 1, C') = _
    rw [and1.2]
  · have : C' = mW (mW C 109 11 w) 109 12 (C 113 j) := by
      have e6 := h.2.2.2.1
      unfold r4_blame at b1
      rw [e6, mLd_n (by have := h.1.1; have := h.2.2.1; omega) (by decide), Option.bind_some, mW_ne _ _ _ (show 113 ≠ 109 by decide)] at b1
      exact (congrArg Prod.snd (Option.some.inj b1)).symm
    rw [this, mW_ne _ _ _ (by decide), mW_ne _ _ _ (by decide), hR.1]
theorem unit_s {C M : mI} {t : Nat → Nat} {n J : Nat} {P : Nat → Nat} {j u c : Nat} (h : Syn C M t n J P j) (hR : CR C M u c) (hc : c ≤ j) : (∃ C' M' w, r4_unit C = some (1, C') ∧ r10_readUnit M = some (0, M') ∧ Syn C' M' t n J P (j + 1) ∧ CR C' M' (u + 1) (c + 1) ∧ C' 116 = mU (C 116) u w ∧ (∀ L : List Bool, L.length < 31 → cTy w L = some (false :: L)) ∧ EF C C' M M') ∨ (∃ C' M', r4_unit C = some (0, C') ∧ r10_readUnit M = some (-1, M') ∧ FltL C' C M' M) := by
  have ask : ∀ w, w < 27 → r10_canAsk (nI w) = if 7 ≤ w ∧ w ≤ 18 then 1 else 0 := by decide
  have fin : ∀ (op arg : Nat) (x y : Int32), op < 16 → op ≠ 5 → arg ≤ 9999 → x = nI op → y = nI arg → ¬ C 111 j = 129 → ∃ C' M', ((r6_emit_114 C x y).bind fun z3 => (r4_step z3).bind fun z4 => some ((1 : Int32), z4)) = some (1, C') ∧ ((r10_emits M x y).bind fun z7 => (r10_reads z7).bind fun z8 => some ((0 : Int32), z8)) = some (0, M') ∧ Syn C' M' t n J P (j + 1) ∧ CR C' M' (u + 1) (c + 1) ∧ C' 116 = mU (C 116) u (nI (arg * 16 + op)) ∧ EF C C' M M' := by
    intro op arg x y ho h5 ha hx hy hne
    have j4 := Syn_j h hne
    obtain ⟨C1, M1, a1, a2, a3, a4, a5, a6, a7, a8, a9⟩ := emit_s hR (by omega) ho h5 ha hx hy hx hy
    have h1 : Syn C1 M1 t n J P j := Syn_em h a5 a7 a8
    obtain ⟨C2, M2, s1, s2, s3, s4, s5⟩ := step_j h1 (by rw [a5 111 (by decide) (by decide)]; exact hne)
    refine ⟨C2, M2, by rw [a1, Option.bind_some, s1, Option.bind_some], by rw [a2, Option.bind_some, s2, Option.bind_some], s3, CR_fs a3 s4 s5, by rw [s4.1 116 (by decide), a4], EF_t ⟨fun a h9 h4 h6 => a5 a h4 h6, a6, fun k _ => by rw [a5 109 (by decide) (by decide)], a7, fun k _ h29 => a8 k h29, a9⟩ (EF_step s4 s5)⟩
  have bad : ¬ C 111 j = 128 → (¬ ∃ w, w < 27 ∧ 7 ≤ w ∧ w ≤ 18 ∧ C 111 j = nI w) → (∃ C' M', r4_unit C = some (0, C') ∧ r10_readUnit M = some (-1, M') ∧ FltL C' C M' M) := by
    intro k1 k2
    obtain ⟨C', M', b1, b2, b3⟩ := blame_L h hR (w := 1) (by decide)
    refine ⟨C', M', ?_, ?_, b3⟩
    · unfold r4_unit
      rw [kind_e h, Option.bind_some, if_neg k1]
      by_cases a : C 111 j < 7
      · rw [if_pos a]; exact b1
      · rw [if_neg a]
        by_cases b : 18 < C 111 j
        · rw [if_pos b]; exact b1
        · exfalso
          obtain ⟨w, hw, ew⟩ := nI_of2 (x := C 111 j) (M := 18) (n := 18) (by decide) (lt0_of (c := 7) (by decide) a) (i32_nlt.mp b)
          refine k2 ⟨w, by omega, ?_, hw, ew⟩
          rw [ew, nI_ltk 7 7 rfl (by decide) (by omega)] at a
          omega
    · unfold r10_readUnit
      have nn : ¬ M 119 18 = 3 := fun q => k1 ((num_e h).1.mp q)
      have z : (if M 119 18 = 2 then if r10_canAsk (M 119 19) = 0 then some 0 else some 1 else some 0 : Option Int32) = some 0 := by
        by_cases m2 : M 119 18 = 2
        · rw [if_pos m2]
          have hc := h.2.2.2.2.1
          rcases hc with ⟨c1, c2⟩ | ⟨c1, c2⟩ | ⟨x, hx, c1, c2, c3⟩ | ⟨c1, c2, c3⟩ | ⟨c, hc, hs, c1, c2, c3⟩
          · rw [c2] at m2; exact absurd m2 (by decide)
          · rw [c2] at m2; exact absurd m2 (by decide)
          · rw [c3, c1, ask x hx, if_neg (show ¬ (7 ≤ x ∧ x ≤ 18) from fun q => k2 ⟨x, hx, q.1, q.2, c1⟩), if_pos rfl]
          · rw [c2] at m2; exact absurd m2 (by decide)
          · rw [c2] at m2; exact absurd m2 (by decide)
        · rw [if_neg m2]
      rw [z, Option.bind_some, if_pos rfl, if_neg nn, b2, Option.bind_some]
  by_cases k1 : C 111 j = 128
  · obtain ⟨a, ha, ea⟩ := val_lt h k1
    obtain ⟨C', M', f1, f2, f3, f4, f5, f6⟩ := fin 0 a 0 (nI a) (by decide) (by decide) ha rfl rfl (by rw [k1]; decide)
    refine .inl ⟨C', M', _, ?_, ?_, f3, f4, f5, fun L hL => cTy_num ha hL, f6⟩
    · unfold r4_unit
      rw [kind_e h, Option.bind_some, if_pos k1, value_e h, Option.bind_some, ea]
      exact f1
    · unfold r10_readUnit
      have m3 := (num_e h).1.mpr k1
      rw [if_neg (show ¬ M 119 18 = 2 by rw [m3]; decide), Option.bind_some, if_pos rfl, if_pos m3, if_pos rfl, if_pos rfl, Option.bind_some, Option.bind_some, (num_e h).2 k1, ea]
      exact f2
  · by_cases k2 : ∃ w, w < 27 ∧ 7 ≤ w ∧ w ≤ 18 ∧ C 111 j = nI w
    · obtain ⟨w, hw, w7, w18, ew⟩ := k2
      have es : nI w - 7 = nI (w - 7) := nI_sub (b := 7) w7
      obtain ⟨C', M', f1, f2, f3, f4, f5, f6⟩ := fin 1 (w - 7) 1 (nI (w - 7)) (by decide) (by decide) (by omega) rfl rfl (by rw [ew, nI_eqk 129 129 rfl (by decide) (by omega)]; omega)
      refine .inl ⟨C', M', _, ?_, ?_, f3, f4, f5, fun L hL => cTy_val (by omega) hL, f6⟩
      · unfold r4_unit
        rw [kind_e h, Option.bind_some, if_neg k1, ew, if_neg (show ¬ nI w < (7 : Int32) from nI_nlt (b := 7) w7 (by omega)), if_neg (show ¬ (18 : Int32) < nI w from nI_nlt (a := 18) w18 (by decide)), es]
        exact f1
      · have hc := h.2.2.2.2.1
        have m2 : M 119 18 = 2 ∧ M 119 19 = nI w := by
          have := word_e h hw
          rw [if_pos ew] at this
          unfold r10_isWord at this
          by_cases a : M 119 18 = 2
          · rw [if_pos a] at this
            by_cases b : M 119 19 = nI w
            · exact ⟨a, b⟩
            · rw [if_neg b] at this; exact absurd this (by decide)
          · rw [if_neg a] at this; exact absurd this (by decide)
        unfold r10_readUnit
        rw [if_pos m2.1, m2.2, ask w hw, if_pos (show 7 ≤ w ∧ w ≤ 18 from ⟨w7, w18⟩), if_neg one_n0, Option.bind_some, if_neg one_n0, if_neg one_n0, if_neg one_n0, Option.bind_some, Option.bind_some, es]
        exact f2
    · exact .inr (bad k1 k2)

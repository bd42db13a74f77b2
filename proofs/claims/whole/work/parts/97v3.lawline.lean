/-! TEXT: a line of the law, in step -/
def tailM (l : Int32) (M : mI) : Option (Int32 × mI) := (mSto M 135 48 (32 + l) (M 119 29)).bind fun z5 => if r10_isSign z5 59 = 0 then (r10_errs z5 1).bind fun z7 => some (z7.1, z7.2) else (r10_reads z5).bind fun z6 => some (0, z6)
def lawM (l : Int32) (M : mI) : Option (Int32 × mI) := (mSto M 132 48 (32 + l) (M 119 19)).bind fun z0 => (r10_reads z0).bind fun z1 => (mSto z1 133 48 (32 + l) (z1 119 29)).bind fun z2 => (r10_readSum z2).bind fun z3 => if z3.1 = -1 then some (-1, z3.2) else (mSto z3.2 134 48 (32 + l) (z3.2 119 29)).bind fun z4 => if r10_isWord z4 3 = 0 then tailM l z4 else (r10_reads z4).bind fun z8 => (r10_readAny z8).bind fun z9 => if z9.1 = -1 then some (-1, z9.2) else tailM l z9.2
theorem lawM_e (f : Nat) (y : Int32) (M : mI) : l10_readLaw_2 (f + 1) y M = if r10_isLineWord M = 0 then some (.inr (y, M)) else if y = 16 then (r10_errs M 3).bind fun z => some (.inl (z.1, z.2)) else (lawM y M).bind fun z0 => if z0.1 = -1 then some (.inl (-1, z0.2)) else l10_readLaw_2 f (y + 1) z0.2 := by
  rw [l10_readLaw_2]
  unfold lawM tailM r10_errs
  simp (decide := true) only [ite_bind, Option.bind_assoc, Option.bind_some, reduceIte]
def tailC (C : mI) : Option (Int32 × mI) := (r6_write_114 C 3 (C 114 3)).bind fun z11 => (r4_pass z11 59).bind fun z12 => some ((z12.1 &&& 1), z12.2)
def lawAt (c code : Nat → Int32) (u : Nat) (wd fr wh to : Nat → Int32) (l : Nat) : Prop := ∃ a b d, a ≤ b ∧ b ≤ d ∧ d ≤ u ∧ c (9 * l) = wd l ∧ c (9 * l + 1) = nI a ∧ c (9 * l + 2) = nI b ∧ c (9 * l + 3) = nI d ∧ fr l = nI (cMi code a) ∧ wh l = nI (cMi code b) ∧ to l = nI (cMi code d) ∧ cTyp code (b - a) a [] = some [false] ∧ (b = d ∨ cTyp code (d - b) b [] = some [true])
theorem lawAt_to {c c' code code' wd wd' fr fr' wh wh' to to' : Nat → Int32} {u u' l : Nat} (h : lawAt c code u wd fr wh to l) (hu : u ≤ u') (hc : ∀ i, i < 9 → c' (9 * l + i) = c (9 * l + i)) (hcd : ∀ i, i < u → code' i = code i) (h1 : wd' l = wd l) (h2 : fr' l = fr l) (h3 : wh' l = wh l) (h4 : to' l = to l) : lawAt c' code' u' wd' fr' wh' to' l := by
  obtain ⟨a, b, d, q1, q2, q3, q4, q5, q6, q7, q8, q9, q10, q11, q12⟩ := h
  have e : eqOn u code' code := hcd
  refine ⟨a, b, d, q1, q2, by omega, ?_, by rw [hc 1 (by decide), q5], by rw [hc 2 (by decide), q6], by rw [hc 3 (by decide), q7], by rw [h2, q8, cMi_rg e a (by omega)], by rw [h3, q9, cMi_rg e b (by omega)], by rw [h4, q10, cMi_rg e d (by omega)], by rw [cTyp_rg e _ _ _ (by omega)]; exact q11, ?_⟩
  · have := hc 0 (by decide)
    rw [Nat.add_zero] at this
    rw [this, q4, h1]
  · rw [cTyp_rg e _ _ _ (by omega)]; exact q12
/-- what may have changed within a line -/
def Ru (C C' M M' : mI) (l : Nat) : Prop := (∀ a, a ≠ 109 → a ≠ 114 → a ≠ 115 → a ≠ 116 → C' a = C a) ∧ (∀ k, k ≠ 3 → C' 114 k = C 114 k) ∧ (∀ k, k ≠ 6 → k ≠ 7 → C' 109 k = C 109 k) ∧ (∀ i, ¬ (9 * l ≤ i ∧ i < 9 * l + 9) → C' 115 i = C 115 i) ∧ (∀ a i, 132 ≤ a → a ≤ 135 → i ≠ 32 + l → M' a i = M a i) ∧ FrM M M'
theorem Ru_t {A A' A'' B B' B'' : mI} {l : Nat} (h : Ru A A' B B' l) (h' : Ru A' A'' B' B'' l) : Ru A A'' B B'' l := by
  obtain ⟨a, b, c, d, e, f⟩ := h
  obtain ⟨a', b', c', d', e', f'⟩ := h'
  exact ⟨fun x p q r w => (a' x p q r w).trans (a x p q r w), fun k p => (b' k p).trans (b k p), fun k p q => (c' k p q).trans (c k p q), fun i p => (d' i p).trans (d i p), fun x i p q r => (e' x i p q r).trans (e x i p q r), FrM_t f f'⟩
theorem Ru_E {A A' B B' : mI} (h : EG A A' B B') (l : Nat) : Ru A A' B B' l := ⟨fun a p q _ r => h.1 a p q r, h.2.1, h.2.2.1, fun i _ => by rw [h.1 115 (by decide) (by decide) (by decide)], fun a i p q _ => by rw [h.2.2.2.1 a (by omega) (by omega) (by omega) (by omega)], h.2.2.2.2.2⟩
theorem Ru_w (C M : mI) {l i a : Nat} (hi : i < 9) (h1 : 132 ≤ a) (h2 : a ≤ 135) (x y : Int32) : Ru C (mW C 115 (9 * l + i) x) M (mW M a (32 + l) y) l := ⟨fun b _ _ p _ => mW_ne _ _ _ p, fun k _ => by rw [mW_ne _ _ _ (by decide)], fun k _ _ => by rw [mW_ne _ _ _ (by decide)], fun k hk => mW_off _ _ (by omega), fun b k _ _ hk => by
  rw [mW_rd]
  by_cases e : b = a
  · rw [if_pos e, if_neg hk]
  · rw [if_neg e], FrM_w (.inr (.inr (.inr (.inl ⟨⟨h1, h2⟩, by omega⟩)))) (by omega)⟩
theorem Ru_C {A A' B B' : mI} {l : Nat} (h : Ru A A' B B' l) : FrC A A' := ⟨fun a ha => h.1 a (by omega) (by omega) (by omega) (by omega), fun k h6 h7 _ _ => h.2.2.1 k h6 h7⟩
theorem law_tail {C M Cx Mx : mI} {t : Nat → Nat} {n J : Nat} {P : Nat → Nat} {l u c u2 c2 ux cx jx : Nat} {κ : Int32} (hl : l < 16) (e2 : Cx 114 2 = nI l) (h : Syn Cx Mx t n J P jx) (hR : CR Cx Mx ux cx) (hcx : cx ≤ jx) (h115 : Cx 115 = mU (mU (mU (C 115) (9 * l + 0) κ) (9 * l + 1) (nI u)) (9 * l + 2) (nI u2)) (h132 : Mx 132 (32 + l) = κ) (h133 : Mx 133 (32 + l) = nI c) (h134 : Mx 134 (32 + l) = nI c2) (r1 : u ≤ u2) (r2 : u2 ≤ ux) (em : cMi (Cx 116) u = c) (em2 : cMi (Cx 116) u2 = c2) (T1 : Ty (Cx 116) u u2 [] [false]) (T2 : u2 = ux ∨ Ty (Cx 116) u2 ux [] [true]) (ru : Ru C Cx M Mx l) : (∃ C' M' j', tailC Cx = some (1, C') ∧ tailM (nI l) Mx = some (0, M') ∧ Syn C' M' t n J P j' ∧ CR C' M' ux cx ∧ cx ≤ j' ∧ C' 109 7 = Cx 109 7 ∧ M' 119 30 = Mx 119 30 ∧ C' 116 = Cx 116 ∧ lawAt (C' 115) (C' 116) ux (fun k => M' 132 (32 + k)) (fun k => M' 133 (32 + k)) (fun k => M' 134 (32 + k)) (fun k => M' 135 (32 + k)) l ∧ Ru C C' M M' l) ∨ (∃ C' M', tailC Cx = some (0, C') ∧ tailM (nI l) Mx = some (-1, M') ∧ Flt C' M' ∧ FrC C C' ∧ FrM M M') := by
  have S1 : Syn (mW Cx 115 (9 * l + 3) (nI ux)) (mW Mx 135 (32 + l) (nI cx)) t n J P jx := Syn_w (Syn_C h (mW_ne _ _ _ (by decide)) (mW_ne _ _ _ (by decide)) (mW_ne _ _ _ (by decide)) (by rw [mW_ne _ _ _ (by decide)]) (by rw [mW_ne _ _ _ (by decide)])) (by decide)
  have ru1 : Ru C (mW Cx 115 (9 * l + 3) (nI ux)) M (mW Mx 135 (32 + l) (nI cx)) l := Ru_t ru (Ru_w _ _ (by decide) (by decide) (by decide) _ _)
  have w1 : tailC Cx = (r4_pass (mW Cx 115 (9 * l + 3) (nI ux)) 59).bind fun z12 => some ((z12.1 &&& 1), z12.2) := by
    unfold tailC
    rw [write_e hl (c := 3) (by decide) e2 (k := 3) rfl, Option.bind_some, hR.1]
  have w2 : tailM (nI l) Mx = if r10_isSign (mW Mx 135 (32 + l) (nI cx)) 59 = 0 then (r10_errs (mW Mx 135 (32 + l) (nI cx)) 1).bind fun z7 => some (z7.1, z7.2) else (r10_reads (mW Mx 135 (32 + l) (nI cx))).bind fun z6 => some (0, z6) := by
    unfold tailM
    rw [nI_addl (show (32 : Int32) = nI 32 from rfl), mSto_n (by omega) (by decide), Option.bind_some, hR.2.1]
  by_cases k59 : (mW Cx 115 (9 * l + 3) (nI ux)) 111 jx = 59
  · obtain ⟨C', M', s1, s2, s3, s4, s5⟩ := step_j S1 (by rw [k59]; decide)
    have c115 : C' 115 = mU (mU (mU (mU (C 115) (9 * l + 0) κ) (9 * l + 1) (nI u)) (9 * l + 2) (nI u2)) (9 * l + 3) (nI ux) := by rw [s4.1 115 (by decide), mW_row, h115]
    have c116 : C' 116 = Cx 116 := by rw [s4.1 116 (by decide), mW_ne _ _ _ (by decide)]
    refine .inl ⟨C', M', jx + 1, ?_, ?_, s3, CR_fs (CR_M (CR_C hR (mW_ne _ _ _ (by decide)) (mW_ne _ _ _ (by decide))) (by rw [mW_ne _ _ _ (by decide)]) (mW_ne _ _ _ (by decide)) (mW_ne _ _ _ (by decide))) s4 s5, by omega, by rw [s4.2 7 (by decide), mW_ne _ _ _ (by decide)], by rw [s5.2 30 (by omega), mW_ne _ _ _ (by decide)], c116, ?_, Ru_t ru1 (Ru_E (EG_F (EF_step s4 s5)) l)⟩
    · rw [w1]
      unfold r4_pass
      rw [kind_e S1, Option.bind_some, if_pos k59, s1, Option.bind_some, Option.bind_some]
      dsimp only
      rw [and1.1]
    · rw [w2, (sg_one S1 (w := 59) (by omega) (x := 59) rfl).1 k59, if_neg one_n0, s2, Option.bind_some]
    · rw [c116, c115]
      refine ⟨u, u2, ux, r1, r2, Nat.le_refl _, ?_, ?_, ?_, ?_, ?_, ?_, ?_, T1.2, ?_⟩
      · rw [mU_ne _ _ (by omega), mU_ne _ _ (by omega), mU_ne _ _ (by omega), Nat.add_zero, mU_eq]
        show _ = M' 132 (32 + l)
        rw [s5.1 132 (by decide), mW_ne _ _ _ (by decide), h132]
      · rw [mU_ne _ _ (by omega), mU_ne _ _ (by omega), mU_eq]
      · rw [mU_ne _ _ (by omega), mU_eq]
      · rw [mU_eq]
      · show M' 133 (32 + l) = _
        rw [s5.1 133 (by decide), mW_ne _ _ _ (by decide), h133, em]
      · show M' 134 (32 + l) = _
        rw [s5.1 134 (by decide), mW_ne _ _ _ (by decide), h134, em2]
      · show M' 135 (32 + l) = _
        rw [s5.1 135 (by decide), mW_at, hR.2.2.1]
      · rcases T2 with q | q
        · exact .inl q
        · exact .inr q.2
  · obtain ⟨C', M', b1, b2, b3, b4, b5⟩ := pass_n S1 k59
    refine .inr ⟨C', M', ?_, ?_, b3, FrC_t (Ru_C ru1) b4, FrM_t ru1.2.2.2.2.2 b5⟩
    · rw [w1, b1, Option.bind_some]
      dsimp only
      rw [and1.2]
    · rw [w2, (sg_one S1 (w := 59) (by omega) (x := 59) rfl).2 k59, if_pos rfl, b2, Option.bind_some]
theorem lw_e {C M : mI} {t : Nat → Nat} {n J : Nat} {P : Nat → Nat} {j : Nat} (h : Syn C M t n J P j) : r10_isLineWord M = rgt 0 (C 111 j) ∧ (rgt 0 (C 111 j) = 1 → M 119 19 = C 111 j ∧ ¬ C 111 j = 129) := by
  have hc := h.2.2.2.2.1
  have big : ∀ κ : Int32, 2 < κ → rgt 0 κ = 0 := fun κ hκ => by
    unfold rgt
    rw [if_pos rfl, if_pos hκ]
  unfold r10_isLineWord
  rcases hc with ⟨c1, c2⟩ | ⟨c1, c2⟩ | ⟨x, hx, c1, c2, c3⟩ | ⟨c1, c2, c3⟩ | ⟨c, hc, hs, c1, c2, c3⟩
  · rw [c2, if_neg (by decide), c1, big 129 (by decide)]
    exact ⟨rfl, fun q => absurd q.symm one_n0⟩
  · rw [c2, if_neg (by decide), c1, big 130 (by decide)]
    exact ⟨rfl, fun q => absurd q.symm one_n0⟩
  · have all : ∀ x, x < 27 → (if r10_isIn (nI x) 0 2 = 0 then (0 : Int32) else 1) = rgt 0 (nI x) := by decide
    rw [c2, if_pos rfl, c3, c1]
    exact ⟨all x hx, fun _ => ⟨rfl, by rw [nI_eqk 129 129 rfl (by decide) (by omega)]; omega⟩⟩
  · rw [c2, if_neg (by decide), c1, big 128 (by decide)]
    exact ⟨rfl, fun q => absurd q.symm one_n0⟩
  · have sl := sgn_lt hs
    rw [c2, if_neg (by decide), c1, big (nI c) (nI_lt (a := 2) (by omega) (by omega))]
    exact ⟨rfl, fun q => absurd q.symm one_n0⟩
theorem law_s {C M : mI} {t : Nat → Nat} {n J : Nat} {P : Nat → Nat} {j l u c : Nat} (h : Syn C M t n J P j) (hl : l < 16) (e2 : C 114 2 = nI l) (hR : CR C M u c) (hc : c ≤ j) (h7 : C 109 7 = 0) (h30 : M 119 30 = 0) (hr : rgt 0 (C 111 j) = 1) : (∃ C' M' j' u' c', r4_lawLine C = some (1, C') ∧ lawM (nI l) M = some (0, M') ∧ Syn C' M' t n J P j' ∧ CR C' M' u' c' ∧ c' ≤ j' ∧ C' 109 7 = 0 ∧ M' 119 30 = 0 ∧ u ≤ u' ∧ (∀ i, i < u → C' 116 i = C 116 i) ∧ lawAt (C' 115) (C' 116) u' (fun k => M' 132 (32 + k)) (fun k => M' 133 (32 + k)) (fun k => M' 134 (32 + k)) (fun k => M' 135 (32 + k)) l ∧ Ru C C' M M' l) ∨ (∃ C' M', r4_lawLine C = some (0, C') ∧ lawM (nI l) M = some (-1, M') ∧ Flt C' M' ∧ FrC C C' ∧ FrM M M') := by
  obtain ⟨v19, ne129⟩ := (lw_e h).2 hr
  have ze : ¬ (0 : Int32) = -1 := by decide
  have n32 : (32 : Int32) + nI l = nI (32 + l) := nI_addl rfl
  -- the word
  have Sa : Syn (mW C 115 (9 * l + 0) (C 111 j)) (mW M 132 (32 + l) (C 111 j)) t n J P j := Syn_w (Syn_C h (mW_ne _ _ _ (by decide)) (mW_ne _ _ _ (by decide)) (mW_ne _ _ _ (by decide)) (by rw [mW_ne _ _ _ (by decide)]) (by rw [mW_ne _ _ _ (by decide)])) (by decide)
  have Ra : CR (mW C 115 (9 * l + 0) (C 111 j)) (mW M 132 (32 + l) (C 111 j)) u c := CR_M (CR_C hR (mW_ne _ _ _ (by decide)) (mW_ne _ _ _ (by decide))) (by rw [mW_ne _ _ _ (by decide)]) (mW_ne _ _ _ (by decide)) (mW_ne _ _ _ (by decide))
  have ra : Ru C (mW C 115 (9 * l + 0) (C 111 j)) M (mW M 132 (32 + l) (C 111 j)) l := Ru_w _ _ (by decide) (by decide) (by decide) _ _
  obtain ⟨C1, M1, s1, s2, s3, s4, s5⟩ := step_j Sa (by rw [mW_ne _ _ _ (by decide)]; exact ne129)
  have R1 := CR_fs Ra s4 s5
  have r1 : Ru C C1 M M1 l := Ru_t ra (Ru_E (EG_F (EF_step s4 s5)) l)
  have e21 : C1 114 2 = nI l := by rw [r1.2.1 2 (by decide), e2]
  -- where it begins
  have Sb : Syn (mW C1 115 (9 * l + 1) (nI u)) (mW M1 133 (32 + l) (nI c)) t n J P (j + 1) := Syn_w (Syn_C s3 (mW_ne _ _ _ (by decide)) (mW_ne _ _ _ (by decide)) (mW_ne _ _ _ (by decide)) (by rw [mW_ne _ _ _ (by decide)]) (by rw [mW_ne _ _ _ (by decide)])) (by decide)
  have Rb : CR (mW C1 115 (9 * l + 1) (nI u)) (mW M1 133 (32 + l) (nI c)) u c := CR_M (CR_C R1 (mW_ne _ _ _ (by decide)) (mW_ne _ _ _ (by decide))) (by rw [mW_ne _ _ _ (by decide)]) (mW_ne _ _ _ (by decide)) (mW_ne _ _ _ (by decide))
  have rb : Ru C (mW C1 115 (9 * l + 1) (nI u)) M (mW M1 133 (32 + l) (nI c)) l := Ru_t r1 (Ru_w _ _ (by decide) (by decide) (by decide) _ _)
  have hC : r4_lawLine C = (r4_expression (mW C1 115 (9 * l + 1) (nI u))).bind fun z4 => if z4.1 = 0 then some (0, z4.2) else (r6_write_114 z4.2 2 (z4.2 114 3)).bind fun z5 => (r4_kind z5).bind fun z6 => if z6 = 3 then (r4_step z5).bind fun z9 => (r4_condition (r4_enclosed 9) z9).bind fun z10 => if z10.1 = 0 then some (0, z10.2) else tailC z10.2 else tailC z5 := by
    unfold r4_lawLine
    rw [kind_e h, Option.bind_some, write_e hl (c := 0) (by decide) e2 (k := 0) rfl, Option.bind_some, s1, Option.bind_some, write_e hl (c := 1) (by decide) e21 (k := 1) rfl, Option.bind_some, R1.1]
    rfl
  have hM : lawM (nI l) M = (r10_readSum (mW M1 133 (32 + l) (nI c))).bind fun z3 => if z3.1 = -1 then some (-1, z3.2) else (mSto z3.2 134 48 (nI (32 + l)) (z3.2 119 29)).bind fun z4 => if r10_isWord z4 3 = 0 then tailM (nI l) z4 else (r10_reads z4).bind fun z8 => (r10_readAny z8).bind fun z9 => if z9.1 = -1 then some (-1, z9.2) else tailM (nI l) z9.2 := by
    unfold lawM
    rw [n32, mSto_n (by omega) (by decide), Option.bind_some, v19, s2, Option.bind_some, mSto_n (by omega) (by decide), Option.bind_some, R1.2.1]
  rcases expr_s (p := 0) (u0 := u) (L0 := []) (L := []) (by decide) Sb Rb (by omega) (Ty_0 _ _ _) with ⟨C2, M2, j2, u2, c2, a1, a2, a3, a4, a5, a6, a7, a8, a9, a10⟩ | ⟨C2, M2, a1, a2, a3⟩
  · have r2 : Ru C C2 M M2 l := Ru_t rb (Ru_E (EG_F a10) l)
    have e22 : C2 114 2 = nI l := by rw [r2.2.1 2 (by decide), e2]
    rw [a1, Option.bind_some] at hC
    rw [a2, Option.bind_some] at hM
    dsimp only at hC hM
    rw [if_neg one_n0, write_e hl (c := 2) (by decide) e22 (k := 2) rfl, Option.bind_some, a4.1] at hC
    rw [if_neg ze, mSto_n (by omega) (by decide), Option.bind_some, a4.2.1] at hM
    have Sc : Syn (mW C2 115 (9 * l + 2) (nI u2)) (mW M2 134 (32 + l) (nI c2)) t n J P j2 := Syn_w (Syn_C a3 (mW_ne _ _ _ (by decide)) (mW_ne _ _ _ (by decide)) (mW_ne _ _ _ (by decide)) (by rw [mW_ne _ _ _ (by decide)]) (by rw [mW_ne _ _ _ (by decide)])) (by decide)
    have Rc : CR (mW C2 115 (9 * l + 2) (nI u2)) (mW M2 134 (32 + l) (nI c2)) u2 c2 := CR_M (CR_C a4 (mW_ne _ _ _ (by decide)) (mW_ne _ _ _ (by decide))) (by rw [mW_ne _ _ _ (by decide)]) (mW_ne _ _ _ (by decide)) (mW_ne _ _ _ (by decide))
    have rc : Ru C (mW C2 115 (9 * l + 2) (nI u2)) M (mW M2 134 (32 + l) (nI c2)) l := Ru_t r2 (Ru_w _ _ (by decide) (by decide) (by decide) _ _)
    have p116 : ∀ i, i < u → (mW C2 115 (9 * l + 2) (nI u2)) 116 i = C 116 i := fun i hi => by rw [mW_ne _ _ _ (by decide), a9 i hi, mW_ne _ _ _ (by decide), s4.1 116 (by decide), mW_ne _ _ _ (by decide)]
    have q115 : (mW C2 115 (9 * l + 2) (nI u2)) 115 = mU (mU (mU (C 115) (9 * l + 0) (C 111 j)) (9 * l + 1) (nI u)) (9 * l + 2) (nI u2) := by
      rw [mW_row, a10.1 115 (by decide) (by decide) (by decide), mW_row, s4.1 115 (by decide), mW_row]
    have q132 : (mW M2 134 (32 + l) (nI c2)) 132 (32 + l) = C 111 j := by
      rw [mW_ne _ _ _ (by decide), a10.2.2.2.1 132 (by decide) (by decide) (by decide), mW_ne _ _ _ (by decide), s5.1 132 (by decide), mW_at]
    have q133 : (mW M2 134 (32 + l) (nI c2)) 133 (32 + l) = nI c := by
      rw [mW_ne _ _ _ (by decide), a10.2.2.2.1 133 (by decide) (by decide) (by decide), mW_at]
    have em : cMi (C2 116) u = c := by
      rw [cMi_rg (code := C 116) (u := u) (fun i hi => by rw [← p116 i hi, mW_ne _ _ _ (by decide)]) u (Nat.le_refl _)]
      exact hR.2.2.1
    rw [kind_e Sc, Option.bind_some] at hC
    by_cases k3 : (mW C2 115 (9 * l + 2) (nI u2)) 111 j2 = 3
    · obtain ⟨C3, M3, d1, d2, d3, d4, d5⟩ := step_j Sc (by rw [k3]; decide)
      rw [if_pos k3, d1, Option.bind_some] at hC
      rw [(wd_one Sc (w := 3) (by decide) (x := 3) rfl).1 k3, if_neg one_n0, d2, Option.bind_some] at hM
      have r3 : Ru C C3 M M3 l := Ru_t rc (Ru_E (EG_F (EF_step d4 d5)) l)
      have x7 : C3 109 7 = 0 := by rw [d4.2 7 (by decide), mW_ne _ _ _ (by decide), a10.2.2.1 7 (by decide), mW_ne _ _ _ (by decide), s4.2 7 (by decide), mW_ne _ _ _ (by decide), h7]
      have x30 : M3 119 30 = 0 := by rw [d5.2 30 (by omega), mW_ne _ _ _ (by decide), a10.2.2.2.2.1 30 (by omega) (by decide), mW_ne _ _ _ (by decide), s5.2 30 (by omega), mW_ne _ _ _ (by decide), h30]
      have t116 : C3 116 = C2 116 := by rw [d4.1 116 (by decide), mW_ne _ _ _ (by decide)]
      rcases any_s (p := 0) (u0 := u2) (L0 := []) (L := []) rfl d3 (CR_fs Rc d4 d5) x7 x30 (by omega) (Ty_0 _ _ _) with ⟨C4, M4, j4, u4, c4, b1, b2, b3, b4, b5, b6, b7, b8, b9, b10, b11, b12⟩ | ⟨C4, M4, b1, b2, b3⟩
      · rw [b1, Option.bind_some] at hC
        rw [b2, Option.bind_some] at hM
        dsimp only at hC hM
        rw [if_neg one_n0] at hC
        rw [if_neg ze] at hM
        have r4 : Ru C C4 M M4 l := Ru_t r3 (Ru_E b12 l)
        have y116 : ∀ i, i < u2 → C4 116 i = C2 116 i := fun i hi => by rw [b11 i hi, t116]
        have e24 : C4 114 2 = nI l := by rw [r4.2.1 2 (by decide), e2]
        have z1 : C4 115 = mU (mU (mU (C 115) (9 * l + 0) (C 111 j)) (9 * l + 1) (nI u)) (9 * l + 2) (nI u2) := by rw [b12.1 115 (by decide) (by decide) (by decide), d4.1 115 (by decide)]; exact q115
        have z2 : M4 132 (32 + l) = C 111 j := by rw [b12.2.2.2.1 132 (by decide) (by decide) (by decide) (by decide), d5.1 132 (by decide)]; exact q132
        have z3 : M4 133 (32 + l) = nI c := by rw [b12.2.2.2.1 133 (by decide) (by decide) (by decide) (by decide), d5.1 133 (by decide)]; exact q133
        have z4 : M4 134 (32 + l) = nI c2 := by rw [b12.2.2.2.1 134 (by decide) (by decide) (by decide) (by decide), d5.1 134 (by decide), mW_at]
        have m1 : cMi (C4 116) u = c := by
          rw [cMi_rg (code := C2 116) (u := u2) y116 u (by omega)]; exact em
        have m2 : cMi (C4 116) u2 = c2 := by
          rw [cMi_rg (code := C2 116) (u := u2) y116 u2 (Nat.le_refl _)]; exact a4.2.2.1
        rcases law_tail (C := C) (M := M) hl e24 b3 b4 (by omega) z1 z2 z3 z4 a8 b10 m1 m2 (Ty_ext a7 y116) (.inr b9) r4 with ⟨C', M', j', g1, g2, g3, g4, g5, g6, g7, g8, g9, g10⟩ | ⟨C', M', g1, g2, g3, g4, g5⟩
        · exact .inl ⟨C', M', j', u4, c4, by rw [hC, g1], by rw [hM, g2], g3, g4, g5, by rw [g6, b7], by rw [g7, b8], by omega, fun i hi => by rw [g8, y116 i (by omega), ← p116 i hi, mW_ne _ _ _ (by decide)], g9, g10⟩
        · exact .inr ⟨C', M', by rw [hC, g1], by rw [hM, g2], g3, g4, g5⟩
      · refine .inr ⟨C4, M4, ?_, ?_, b3.1, FrC_t (Ru_C r3) b3.2.1, FrM_t r3.2.2.2.2.2 b3.2.2.1⟩
        · rw [hC, b1, Option.bind_some, if_pos rfl]
        · rw [hM, b2, Option.bind_some, if_pos rfl]
    · rw [if_neg k3] at hC
      rw [(wd_one Sc (w := 3) (by decide) (x := 3) rfl).2 k3, if_pos rfl] at hM
      have c116 : (mW C2 115 (9 * l + 2) (nI u2)) 116 = C2 116 := mW_ne _ _ _ (by decide)
      rcases law_tail (C := C) (M := M) (ux := u2) (cx := c2) hl (by rw [rc.2.1 2 (by decide), e2]) Sc Rc (by omega) q115 q132 q133 (mW_at _ _ _ _) a8 (Nat.le_refl _) (by rw [c116]; exact em) (by rw [c116]; exact a4.2.2.1) (by rw [c116]; exact a7) (.inl rfl) rc with ⟨C', M', j', g1, g2, g3, g4, g5, g6, g7, g8, g9, g10⟩ | ⟨C', M', g1, g2, g3, g4, g5⟩
      · refine .inl ⟨C', M', j', u2, c2, by rw [hC, g1], by rw [hM, g2], g3, g4, g5, ?_, ?_, a8, fun i hi => by rw [g8, p116 i hi], g9, g10⟩
        · rw [g6, mW_ne _ _ _ (by decide), a10.2.2.1 7 (by decide), mW_ne _ _ _ (by decide), s4.2 7 (by decide), mW_ne _ _ _ (by decide), h7]
        · rw [g7, mW_ne _ _ _ (by decide), a10.2.2.2.2.1 30 (by omega) (by decide), mW_ne _ _ _ (by decide), s5.2 30 (by omega), mW_ne _ _ _ (by decide), h30]
      · exact .inr ⟨C', M', by rw [hC, g1], by rw [hM, g2], g3, g4, g5⟩
  · refine .inr ⟨C2, M2, ?_, ?_, a3.1, FrC_t (Ru_C rb) a3.2.1, FrM_t rb.2.2.2.2.2 a3.2.2.1⟩
    · rw [hC, a1, Option.bind_some, if_pos rfl]
    · rw [hM, a2, Option.bind_some, if_pos rfl]

/-! TEXT: a comparison, in step -/
theorem cmp_s {C M : mI} {t : Nat → Nat} {n J : Nat} {P : Nat → Nat} {j u c p u0 : Nat} {L0 L : List Bool} (rc : mI → Int32 → Option (Int32 × mI)) (hL : L.length ≤ 27) (h : Syn C M t n J P j) (hR : CR C M u c) (hc : c + p ≤ j) (hT : Ty (C 116) u0 u L0 L) (n6 : ¬ C 111 j = 6) (n40 : ¬ C 111 j = 40) : (∃ C' M' j' u' c', r4_single rc C = some (1, C') ∧ r10_readCompared M = some (0, M') ∧ Syn C' M' t n J P j' ∧ CR C' M' u' c' ∧ c' + p ≤ j' ∧ j < j' ∧ Ty (C' 116) u0 u' L0 (true :: L) ∧ u ≤ u' ∧ (∀ i, i < u → C' 116 i = C 116 i) ∧ EF C C' M M') ∨ (∃ C' M', r4_single rc C = some (0, C') ∧ r10_readCompared M = some (-1, M') ∧ FltL C' C M' M) := by
  have hd : r4_single rc C = (r4_expression C).bind fun z4 => if (z4.1 : Int32) = (0 : Int32) then some (0, z4.2) else (r4_kind z4.2).bind fun z5 => if (z5 : Int32) = (60 : Int32) then (r4_step z4.2).bind fun z6 => (r4_expression z6).bind fun z7 => if (z7.1 : Int32) = (0 : Int32) then some (0, z7.2) else (if (z5 : Int32) = (60 : Int32) then some 6 else if (z5 : Int32) = (61 : Int32) then some 7 else some 8 : Option (Int32)).bind fun z8 => (r6_emit_114 z7.2 z8 0).bind fun z9 => some (1, z9) else if (z5 : Int32) = (61 : Int32) then (r4_step z4.2).bind fun z10 => (r4_expression z10).bind fun z11 => if (z11.1 : Int32) = (0 : Int32) then some (0, z11.2) else (if (z5 : Int32) = (60 : Int32) then some 6 else if (z5 : Int32) = (61 : Int32) then some 7 else some 8 : Option (Int32)).bind fun z12 => (r6_emit_114 z11.2 z12 0).bind fun z13 => some (1, z13) else if (z5 : Int32) = (62 : Int32) then (r4_step z4.2).bind fun z14 => (r4_expression z14).bind fun z15 => if (z15.1 : Int32) = (0 : Int32) then some (0, z15.2) else (if (z5 : Int32) = (60 : Int32) then some 6 else if (z5 : Int32) = (61 : Int32) then some 7 else some 8 : Option (Int32)).bind fun z16 => (r6_emit_114 z15.2 z16 0).bind fun z17 => some (1, z17) else (r4_blame z4.2 1).bind fun z18 => some ((z18.1 &&& 1), z18.2) := by
    unfold r4_single
    rw [kind_e h, Option.bind_some, if_neg n6, Option.bind_some, if_neg n40]
  have ze : ¬ (0 : Int32) = -1 := by decide
  rcases expr_s (p := p) (by omega) h hR hc hT with ⟨C1, M1, j1, u1, c1, a1, a2, a3, a4, a5, a6, a7, a8, a9, a10⟩ | ⟨C1, M1, a1, a2, a3⟩
  · rw [a1, Option.bind_some] at hd
    dsimp only at hd
    rw [if_neg one_n0, kind_e a3, Option.bind_some] at hd
    have rd : r10_readCompared M = if ((r10_isSign M1 60) : Int32) = (0 : Int32) then if ((r10_isSign M1 61) : Int32) = (0 : Int32) then if ((r10_isSign M1 62) : Int32) = (0 : Int32) then (r10_errs M1 1).bind fun z13 => some (z13.1, z13.2) else (if (M1 119 19 : Int32) = (60 : Int32) then some 6 else if (M1 119 19 : Int32) = (61 : Int32) then some 7 else some 8 : Option (Int32)).bind fun z9 => (r10_reads M1).bind fun z10 => (r10_readSum z10).bind fun z11 => if (z11.1 : Int32) = ((-1) : Int32) then some ((-1), z11.2) else (r10_emits z11.2 z9 0).bind fun z12 => some (0, z12) else (if (M1 119 19 : Int32) = (60 : Int32) then some 6 else if (M1 119 19 : Int32) = (61 : Int32) then some 7 else some 8 : Option (Int32)).bind fun z5 => (r10_reads M1).bind fun z6 => (r10_readSum z6).bind fun z7 => if (z7.1 : Int32) = ((-1) : Int32) then some ((-1), z7.2) else (r10_emits z7.2 z5 0).bind fun z8 => some (0, z8) else (if (M1 119 19 : Int32) = (60 : Int32) then some 6 else if (M1 119 19 : Int32) = (61 : Int32) then some 7 else some 8 : Option (Int32)).bind fun z1 => (r10_reads M1).bind fun z2 => (r10_readSum z2).bind fun z3 => if (z3.1 : Int32) = ((-1) : Int32) then some ((-1), z3.2) else (r10_emits z3.2 z1 0).bind fun z4 => some (0, z4) := by
      unfold r10_readCompared
      rw [a2, Option.bind_some]
      dsimp only
      rw [if_neg ze]
    by_cases k0 : C1 111 j1 = 60 ∨ C1 111 j1 = 61 ∨ C1 111 j1 = 62
    · obtain ⟨op, ho, ho', hd', rd'⟩ : ∃ op : Nat, (op = 6 ∨ op = 7 ∨ op = 8) ∧ (¬ C1 111 j1 = 129) ∧ (r4_single rc C = (r4_step C1).bind fun z6 => (r4_expression z6).bind fun z7 => if (z7.1 : Int32) = (0 : Int32) then some (0, z7.2) else (r6_emit_114 z7.2 (nI op) 0).bind fun z9 => some (1, z9)) ∧ (r10_readCompared M = (r10_reads M1).bind fun z2 => (r10_readSum z2).bind fun z3 => if (z3.1 : Int32) = ((-1) : Int32) then some ((-1), z3.2) else (r10_emits z3.2 (nI op) 0).bind fun z4 => some (0, z4)) := by
        rcases k0 with k | k | k
        · refine ⟨6, .inl rfl, by rw [k]; decide, ?_, ?_⟩
          · rw [hd, k, if_pos rfl]
            rfl
          · rw [rd, (sg_one a3 (w := 60) (by omega) (x := 60) rfl).1 k, if_neg one_n0, (show M1 119 19 = 60 from sg_19 a3 (w := 60) (by omega) k), if_pos rfl, Option.bind_some]
            rfl
        · have k6 : ¬ C1 111 j1 = 60 := by rw [k]; decide
          refine ⟨7, .inr (.inl rfl), by rw [k]; decide, ?_, ?_⟩
          · rw [hd, if_neg k6, if_pos k, if_neg k6, if_pos k]
            rfl
          · rw [rd, (sg_one a3 (w := 60) (by omega) (x := 60) rfl).2 k6, if_pos rfl, (sg_one a3 (w := 61) (by omega) (x := 61) rfl).1 k, if_neg one_n0, (show M1 119 19 = 61 from sg_19 a3 (w := 61) (by omega) k), if_neg (show ¬ (61 : Int32) = 60 by decide), if_pos rfl, Option.bind_some]
            rfl
        · have k6 : ¬ C1 111 j1 = 60 := by rw [k]; decide
          have k7 : ¬ C1 111 j1 = 61 := by rw [k]; decide
          refine ⟨8, .inr (.inr rfl), by rw [k]; decide, ?_, ?_⟩
          · rw [hd, if_neg k6, if_neg k7, if_pos k, if_neg k6, if_neg k7]
            rfl
          · rw [rd, (sg_one a3 (w := 60) (by omega) (x := 60) rfl).2 k6, if_pos rfl, (sg_one a3 (w := 61) (by omega) (x := 61) rfl).2 k7, if_pos rfl, (sg_one a3 (w := 62) (by omega) (x := 62) rfl).1 k, if_neg one_n0, (show M1 119 19 = 62 from sg_19 a3 (w := 62) (by omega) k), if_neg (show ¬ (62 : Int32) = 60 by decide), if_neg (show ¬ (62 : Int32) = 61 by decide), Option.bind_some]
            rfl
      obtain ⟨C2, M2, s1, s2, s3, s4, s5⟩ := step_j a3 ho'
      have R2 : CR C2 M2 u1 c1 := CR_fs a4 s4 s5
      have T2 : Ty (C2 116) u0 u1 L0 (false :: L) := by rw [s4.1 116 (by decide)]; exact a7
      have E2 : EF C C2 M M2 := EF_t a10 (EF_step s4 s5)
      rw [s1, Option.bind_some] at hd'
      rw [s2, Option.bind_some] at rd'
      rcases expr_s (p := p + 1) (L := false :: L) (by show L.length + 1 ≤ 28; omega) s3 R2 (by omega) T2 with ⟨C3, M3, j3, u3, c3, b1, b2, b3, b4, b5, b6, b7, b8, b9, b10⟩ | ⟨C3, M3, b1, b2, b3⟩
      · have J4 := b3.1.1
        have jJ := b3.2.2.1
        obtain ⟨C4, M4, d1, d2, d3, d4, d5, d6, d7, d8, d9⟩ := emit_s b4 (op := op) (arg := 0) (by omega) (by omega) (by omega) (by omega) (x := nI op) rfl (y := 0) rfl (x' := nI op) rfl (y' := 0) rfl
        refine .inl ⟨C4, M4, j3, u3 + 1, c3 + 1, ?_, ?_, Syn_em b3 d5 d7 d8, d3, by omega, by omega, by rw [d4]; exact Ty_emit b7 (cTy_cmp ho), by omega, fun i hi => by rw [d4, mU_ne _ _ (by omega), b9 i (by omega), s4.1 116 (by decide), a9 i hi], EF_t E2 (EF_t b10 ⟨fun a h9 h4 h6 => d5 a h4 h6, d6, fun k _ => by rw [d5 109 (by decide) (by decide)], d7, fun k _ h29 => d8 k h29, d9⟩)⟩
        · rw [hd', b1, Option.bind_some]
          dsimp only
          rw [if_neg one_n0, d1, Option.bind_some]
        · rw [rd', b2, Option.bind_some]
          dsimp only
          rw [if_neg ze, d2, Option.bind_some]
      · refine .inr ⟨C3, M3, ?_, ?_, FltL_t b3 (EF_C E2) E2.2.2.2.2.2⟩
        · rw [hd', b1, Option.bind_some, if_pos rfl]
        · rw [rd', b2, Option.bind_some, if_pos rfl]
    · obtain ⟨C2, M2, b1, b2, b3⟩ := blame_L a3 a4 (w := 1) (by decide)
      have k6 : ¬ C1 111 j1 = 60 := fun q => k0 (.inl q)
      have k7 : ¬ C1 111 j1 = 61 := fun q => k0 (.inr (.inl q))
      have k8 : ¬ C1 111 j1 = 62 := fun q => k0 (.inr (.inr q))
      refine .inr ⟨C2, M2, ?_, ?_, FltL_t b3 (EF_C a10) a10.2.2.2.2.2⟩
      · rw [hd, if_neg k6, if_neg k7, if_neg k8]
        exact b1
      · rw [rd, (sg_one a3 (w := 60) (by omega) (x := 60) rfl).2 k6, if_pos rfl, (sg_one a3 (w := 61) (by omega) (x := 61) rfl).2 k7, if_pos rfl, (sg_one a3 (w := 62) (by omega) (x := 62) rfl).2 k8, if_pos rfl, b2, Option.bind_some]
  · refine .inr ⟨C1, M1, ?_, ?_, a3⟩
    · rw [hd, a1, Option.bind_some, if_pos rfl]
    · unfold r10_readCompared
      rw [a2, Option.bind_some, if_pos rfl]

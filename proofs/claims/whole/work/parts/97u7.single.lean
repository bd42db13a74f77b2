/-! TEXT: what is behind 'not' or a bracket, in step -/
theorem en_not {rc : mI → Int32 → Option (Int32 × mI)} {C C1 : mI} (h7 : C 109 7 < 8) (h : r4_step (mW C 109 7 (C 109 7 + 1)) = some C1) : rB4_enclosed rc C 6 = (r4_single rc C1).bind fun z1 => (r6_emit_114 (mW z1.2 109 7 (z1.2 109 7 - 1)) 9 0).bind fun z6 => some (z1.1 &&& 1, z6) := by
  unfold rB4_enclosed
  rw [if_pos h7, h, Option.bind_some, if_pos rfl]
  simp only [Option.bind_assoc, Option.bind_some, reduceIte]
theorem en_br {rc : mI → Int32 → Option (Int32 × mI)} {C C1 : mI} (h7 : C 109 7 < 8) (h : r4_step (mW C 109 7 (C 109 7 + 1)) = some C1) : rB4_enclosed rc C 40 = ((r4_condition rc C1).bind fun z2 => if z2.1 = 0 then some (0, z2.2) else (r4_pass z2.2 41).bind fun z3 => if z3.1 = 0 then some (0, z3.2) else some (1, z3.2)).bind fun z1 => some (z1.1 &&& 1, mW z1.2 109 7 (z1.2 109 7 - 1)) := by
  unfold rB4_enclosed
  rw [if_pos h7, h, Option.bind_some, if_neg (show ¬ (40 : Int32) = 6 by decide)]
  simp (decide := true) only [Option.bind_assoc, Option.bind_some, reduceIte]
theorem pass_t {C : mI} {κ : Int32} (h : r4_kind C = some κ) (hk : ¬ κ = 41) : r4_pass C 41 = (r4_blame C 1).bind fun z1 => some (z1.1 &&& 1, z1.2) := by
  unfold r4_pass
  rw [h, Option.bind_some, if_neg hk]
theorem single_d {t : Nat → Nat} {n J : Nat} {P : Nat → Nat} {u0 : Nat} {L0 : List Bool} : ∀ d o, o + d = 9 → o ≤ 8 → SiS t n J P o u0 L0 (r4_enclosed d) := by
  intro d
  induction d with
  | zero => intro o h ho; omega
  | succ d ih =>
    intro o hod ho C M j u c p b s L hL hl hn hb hC hc hT
    obtain ⟨h1, h2, h3, h4, h5⟩ := hC
    have hC : Cst C M t n J P j u c o s := ⟨h1, h2, h3, h4, h5⟩
    have J4 := h1.1.1
    have jJ := h1.2.2.1
    have i32_8 : o ≤ 8 → (¬ o = 8 → C 109 7 < 8) := fun _ q => by
      rw [h4]
      exact (nI_ltk 8 8 rfl (by decide) (by omega)).mpr (by omega)
    by_cases k6 : C 111 j = 6
    · have w6 : r10_isWord M 6 = 1 := (wd_one h1 (w := 6) (by decide) rfl).1 k6
      have cl : r4_single (r4_enclosed (d + 1)) C = (rB4_enclosed (r4_enclosed d) C 6).bind fun z2 => some (z2.1 &&& 1, z2.2) := by
        unfold r4_single
        rw [kind_e h1, Option.bind_some, if_pos k6, Option.bind_some, k6]
        rfl
      by_cases o8 : o = 8
      · obtain ⟨C', M', b1, b2, b3⟩ := blame_L h1 h2 (w := 3) (by decide)
        refine .inr ⟨C', M', 1, ?_, fun f => ?_, by omega, b3⟩
        · rw [cl]
          unfold rB4_enclosed
          rw [if_neg (show ¬ C 109 7 < 8 by rw [h4, o8]; decide), b1, Option.bind_some, and1.2]
        · rw [aM_not w6, if_pos (show M 119 30 = 8 by rw [h5, o8]; rfl), b2, Option.bind_some]
      · have ne129 : ¬ C 111 j = 129 := by rw [k6]; decide
        obtain ⟨C1, Mb, Mc, a1, a2, a3, a4, a5, a6⟩ := open_s hC (by omega) (x := 9) (by decide) (y := 9) rfl ne129
        have rf : ∀ f, aM (f + 1) (nI b) 1 M = aM f (nI b) 1 Mc := fun f => by
          rw [aM_not w6, if_neg (show ¬ M 119 30 = 8 by rw [h5, nI_eqk 8 8 rfl (by decide) (by omega)]; exact o8), a2, Option.bind_some, a3, Option.bind_some]
        have c2 := en_not (rc := r4_enclosed d) (i32_8 ho o8) a1
        have nn : nT (9 :: s) = nT s + 1 := if_pos rfl
        rcases ih (o + 1) (by omega) (by omega) C1 Mc (j + 1) u c (p + 1) b (9 :: s) L (by omega) (by show s.length + 1 ≤ _; omega) (by omega) (by omega) a4 (by omega) (by rw [a5]; exact hT) with ⟨C2, Ms, M', j2, u2, c2', k, b1, b2, b3, b4, b5, b6, b6', b7, b8, b9, b10⟩ | ⟨C2, M', k, b1, b2, b3, b4⟩
        · obtain ⟨g1, g2, g3, g4, g5⟩ := b4
          have J4' := g1.1.1
          have jJ' := g1.2.2.1
          have e7 : C2 109 7 - 1 = nI o := by rw [g4, nI_pred]
          obtain ⟨C3, Me, d1, d2, d3, d4, d5, d6, d7, d8, d9, d10⟩ := pop_e (C := mW C2 109 7 (C2 109 7 - 1)) g3 (CR_C g2 (mW_ne _ _ _ (by decide)) (mW_ne _ _ _ (by decide))) (by omega) (by decide) (y := 9) rfl
          have S2 : Syn C2 Me t n J P j2 := Syn_M g1 (d9 15 (by decide) (by decide)) (d8 129 (by decide) (by decide) (by decide)) (d8 130 (by decide) (by decide) (by decide)) (d9 16 (by decide) (by decide)) (d9 17 (by decide) (by decide)) (d9 18 (by decide) (by decide)) (d9 19 (by decide) (by decide))
          have S3 : Syn C3 Me t n J P j2 := Syn_C S2 (by rw [d6 111 (by decide) (by decide), mW_ne _ _ _ (by decide)]) (by rw [d6 112 (by decide) (by decide), mW_ne _ _ _ (by decide)]) (by rw [d6 113 (by decide) (by decide), mW_ne _ _ _ (by decide)]) (by rw [d6 109 (by decide) (by decide), mW_off _ _ (by decide)]) (by rw [d6 109 (by decide) (by decide), mW_off _ _ (by decide)])
          refine .inl ⟨C3, mW Me 119 30 (Me 119 30 - 1), M', j2, u2 + 1, c2' + 1, k + 1, ?_, fun f => ?_, fun f hf => ?_, ⟨Syn_M S3 (mW_off _ _ (by decide)) (mW_ne _ _ _ (by decide)) (mW_ne _ _ _ (by decide)) (mW_off _ _ (by decide)) (mW_off _ _ (by decide)) (mW_off _ _ (by decide)) (mW_off _ _ (by decide)), CR_M d3 (mW_off _ _ (by decide)) (mW_ne _ _ _ (by decide)) (mW_ne _ _ _ (by decide)), Spl_M d4 (mW_off _ _ (by decide)) (mW_ne _ _ _ (by decide)), ?_, ?_⟩, by omega, by omega, by omega, ?_, by omega, fun i hi => ?_, ?_⟩
          · rw [cl, c2, b1, Option.bind_some]
            dsimp only
            rw [d1, Option.bind_some, Option.bind_some]
            dsimp only
            rw [and1.1, and1.1]
          · show aM (f + k + 1) _ _ _ = _
            rw [rf, b2]
          · rw [← b3 (f + 1) (by show s.length + 1 < f + 1; omega), settle_y g3 (by omega) (y := 9) rfl, d2, Option.bind_some, if_pos rfl]
          · rw [d6 109 (by decide) (by decide), mW_at, e7]
          · rw [mW_at, d9 30 (by decide) (by decide), g5, nI_pred]
          · rw [d5, mW_ne _ _ _ (by decide)]
            exact Ty_emit b7 cTy_not
          · rw [d5, mU_ne _ _ (by omega), mW_ne _ _ _ (by decide), b9 i hi, a5]
          · exact EG_t a6 (EG_t b10 (EG_t (EG_7 C2 Ms _) (EG_t (EG_cm d6 d7 d8 d9 d10) (EG_M (fun a p _ _ _ => mW_ne _ _ _ p) (fun k p q => mW_off _ _ (by omega)) (FrM_9 (by omega))))))
        · obtain ⟨C3, e1, e2⟩ := emit_F (FltL_7 b4 (C2 109 7 - 1)) 9 0
          refine .inr ⟨C3, M', k + 1, ?_, fun f => ?_, by omega, FltL_t e2 (EG_C a6) a6.2.2.2.2.2⟩
          · rw [cl, c2, b1, Option.bind_some]
            dsimp only
            rw [e1, Option.bind_some, Option.bind_some]
            dsimp only
            rw [and1.2, and1.2]
          · show aM (f + k + 1) _ _ _ = _
            rw [rf, b2]
    · have w6 : r10_isWord M 6 = 0 := (wd_one h1 (w := 6) (by decide) rfl).2 k6
      by_cases k40 : C 111 j = 40
      · have w40 : r10_isSign M 40 = 1 := (sg_one h1 (w := 40) (by omega) rfl).1 k40
        have cl : r4_single (r4_enclosed (d + 1)) C = (rB4_enclosed (r4_enclosed d) C 40).bind fun z2 => some (z2.1 &&& 1, z2.2) := by
          unfold r4_single
          rw [kind_e h1, Option.bind_some, if_neg k6, Option.bind_some, if_pos k40, Option.bind_some, k40]
          rfl
        by_cases o8 : o = 8
        · obtain ⟨C', M', b1, b2, b3⟩ := blame_L h1 h2 (w := 3) (by decide)
          refine .inr ⟨C', M', 1, ?_, fun f => ?_, by omega, b3⟩
          · rw [cl]
            unfold rB4_enclosed
            rw [if_neg (show ¬ C 109 7 < 8 by rw [h4, o8]; decide), b1, Option.bind_some, and1.2]
          · rw [aM_br w6 w40, if_pos (show M 119 30 = 8 by rw [h5, o8]; rfl), b2, Option.bind_some]
        · have ne129 : ¬ C 111 j = 129 := by rw [k40]; decide
          obtain ⟨C1, Mb, Mc, a1, a2, a3, a4, a5, a6⟩ := open_s hC (by omega) (x := 12) (by decide) (y := 12) rfl ne129
          have rf : ∀ f, aM (f + 1) (nI b) 1 M = aM f (nI (b + 1)) 1 Mc := fun f => by
            rw [aM_br w6 w40, if_neg (show ¬ M 119 30 = 8 by rw [h5, nI_eqk 8 8 rfl (by decide) (by omega)]; exact o8), a2, Option.bind_some, a3, Option.bind_some, nI_1]
          have c2 := en_br (rc := r4_enclosed d) (i32_8 ho o8) a1
          rcases cond_s (p := p) (b := b + 1) (s := 12 :: s) (L := L) (ih (o + 1) (by omega) (by omega)) (by omega) (by omega) (by omega) (by show s.length + 1 ≤ _; omega) (.inr rfl) a4 (by omega) (by rw [a5]; exact hT) with ⟨C2, M2, j2, u2, c2', k, q1, q2, q3, q4, q5, q6, q7, q8, q9, q10⟩ | ⟨C2, M2, k, q1, q2, q3, q4⟩
          · obtain ⟨g1, g2, g3, g4, g5⟩ := q3
            have J4' := g1.1.1
            have jJ' := g1.2.2.1
            have g32 : M2 119 32 = nI (s.length + 1) := g3.1
            have b0 : ¬ nI (b + 1) = 0 := nI_ne0 (by omega) (by omega)
            by_cases k41 : C2 111 j2 = 41
            · have Sp : Spl (mW (mW M2 119 32 (nI s.length)) 119 30 (nI o)) s := ⟨by rw [mW_off _ _ (by decide), mW_at], by rw [mW_ne _ _ _ (by decide), mW_ne _ _ _ (by decide)]; exact g3.2.2.2⟩
              obtain ⟨M3, m1, m2, m3⟩ := settle_tot (c := c2') Sp (by omega) (by rw [mW_off _ _ (by decide), mW_off _ _ (by decide), g2.2.1]) (by omega)
              have m2' : ∀ a, a ≠ 119 → a ≠ 136 → a ≠ 137 → M3 a = M2 a := fun a p q r => by rw [m2 a p q r, mW_ne _ _ _ p, mW_ne _ _ _ p]
              have m3' : ∀ k, k ≠ 29 → k ≠ 30 → k ≠ 32 → M3 119 k = M2 119 k := fun k p q r => by rw [m3 k p q r, mW_off _ _ q, mW_off _ _ r]
              have S3 : Syn C2 M3 t n J P j2 := Syn_M g1 (m3' 15 (by decide) (by decide) (by decide)) (m2' 129 (by decide) (by decide) (by decide)) (m2' 130 (by decide) (by decide) (by decide)) (m3' 16 (by decide) (by decide) (by decide)) (m3' 17 (by decide) (by decide) (by decide)) (m3' 18 (by decide) (by decide) (by decide)) (m3' 19 (by decide) (by decide) (by decide))
              obtain ⟨C3, M4, s1, s2, s3, s4, s5⟩ := step_j S3 (by rw [k41]; decide)
              have ps : r4_pass C2 41 = some (1, C3) := by
                unfold r4_pass
                rw [kind_e g1, Option.bind_some, if_pos k41, s1, Option.bind_some]
              obtain ⟨x0, x6, x7, x8, x9⟩ := tkM_fs (mW (mW M2 119 32 (nI s.length)) 119 30 (nI o)) M4
              have y15 : tkM (mW (mW M2 119 32 (nI s.length)) 119 30 (nI o)) M4 119 15 = M4 119 15 := by
                rw [x0.2 15 (by omega), mW_off _ _ (by decide), mW_off _ _ (by decide), s5.2 15 (by omega), m3' 15 (by decide) (by decide) (by decide)]
              have yr : ∀ a, a ≠ 119 → a ≠ 136 → a ≠ 137 → tkM (mW (mW M2 119 32 (nI s.length)) 119 30 (nI o)) M4 a = M4 a := fun a p q r => by
                rw [x0.1 a p, mW_ne _ _ _ p, mW_ne _ _ _ p, s5.1 a p, m2' a p q r]
              have R3 : CR C3 M2 u2 c2' := CR_C g2 (s4.1 114 (by decide)) (s4.1 116 (by decide))
              refine .inl ⟨mW C3 109 7 (C3 109 7 - 1), tkM (mW (mW M2 119 32 (nI s.length)) 119 30 (nI o)) M4, M4, j2 + 1, u2, c2', k + 1, ?_, fun f => ?_, fun f hf => tkM_set (m1 f hf) s5, ⟨?_, ?_, ?_, ?_, ?_⟩, by omega, by omega, by omega, ?_, by omega, fun i hi => ?_, ?_⟩
              · rw [cl, c2, q1, Option.bind_some]
                dsimp only
                rw [if_neg one_n0, ps, Option.bind_some]
                dsimp only
                rw [if_neg one_n0, Option.bind_some, Option.bind_some]
                dsimp only
                rw [and1.1, and1.1]
              · show aM (f + k + 1) _ _ _ = _
                rw [rf, q2]
                unfold aN
                rw [if_neg b0, (sg_one g1 (w := 41) (by omega) (x := 41) rfl).1 k41, if_neg one_n0, g32, nI_pred, g5, nI_pred, set_of m1 (by omega), Option.bind_some, s2, Option.bind_some, nI_pred]
              · exact Syn_C (Syn_M s3 y15 (yr 129 (by decide) (by decide) (by decide)) (yr 130 (by decide) (by decide) (by decide)) x6 x7 x8 x9) (mW_ne _ _ _ (by decide)) (mW_ne _ _ _ (by decide)) (mW_ne _ _ _ (by decide)) (mW_off _ _ (by decide)) (mW_off _ _ (by decide))
              · refine CR_M (CR_C R3 (mW_ne _ _ _ (by decide)) (mW_ne _ _ _ (by decide))) ?_ ?_ ?_
                · rw [x0.2 29 (by omega), mW_off _ _ (by decide), mW_off _ _ (by decide)]
                · rw [x0.1 136 (by decide), mW_ne _ _ _ (by decide), mW_ne _ _ _ (by decide)]
                · rw [x0.1 137 (by decide), mW_ne _ _ _ (by decide), mW_ne _ _ _ (by decide)]
              · exact Spl_M Sp (x0.2 32 (by omega)) (x0.1 138 (by decide))
              · rw [mW_at, s4.2 7 (by decide), g4, nI_pred]
              · rw [x0.2 30 (by omega), mW_at]
              · rw [mW_ne _ _ _ (by decide), s4.1 116 (by decide)]; exact q7
              · rw [mW_ne _ _ _ (by decide), s4.1 116 (by decide), q9 i hi, a5]
              · exact EG_t a6 (EG_t q10 (EG_t (EG_M (M' := mW (mW M2 119 32 (nI s.length)) 119 30 (nI o)) (fun a p _ _ _ => by rw [mW_ne _ _ _ p, mW_ne _ _ _ p]) (fun k p q => by rw [mW_off _ _ (by omega), mW_off _ _ (by omega)]) (FrM_t (FrM_9 (by omega)) (FrM_9 (by omega)))) (EG_t (EG_F (EF_step s4 x0)) (EG_7 _ _ _))))
            · obtain ⟨C3, M3, b1, b2, b3⟩ := blame_L g1 g2 (w := 1) (by decide)
              refine .inr ⟨mW C3 109 7 (C3 109 7 - 1), M3, k + 1, ?_, fun f => ?_, by omega, FltL_7 (FltL_t (FltL_t b3 (EG_C q10) q10.2.2.2.2.2) (EG_C a6) a6.2.2.2.2.2) _⟩
              · rw [cl, c2, q1, Option.bind_some]
                dsimp only
                rw [if_neg one_n0, pass_t (kind_e g1) k41, b1, Option.bind_some]
                dsimp only
                rw [if_pos rfl, Option.bind_some, Option.bind_some]
                dsimp only
                rw [and1.2, and1.2]
              · show aM (f + k + 1) _ _ _ = _
                rw [rf, q2]
                unfold aN
                rw [if_neg b0, (sg_one g1 (w := 41) (by omega) (x := 41) rfl).2 k41, if_pos rfl, b2, Option.bind_some]
          · refine .inr ⟨mW C2 109 7 (C2 109 7 - 1), M2, k + 1, ?_, fun f => ?_, by omega, FltL_7 (FltL_t q4 (EG_C a6) a6.2.2.2.2.2) _⟩
            · rw [cl, c2, q1, Option.bind_some]
              dsimp only
              rw [if_pos rfl, Option.bind_some, Option.bind_some]
              dsimp only
              rw [and1.2, and1.2]
            · show aM (f + k + 1) _ _ _ = _
              rw [rf, q2]
      · have w40 : r10_isSign M 40 = 0 := (sg_one h1 (w := 40) (by omega) rfl).2 k40
        rcases cmp_s (p := p) (r4_enclosed (d + 1)) (by omega) h1 h2 hc hT k6 k40 with ⟨C', M', j', u', c', q1, q2, q3, q4, q5, q6, q7, q8, q9, q10⟩ | ⟨C', M', q1, q2, q3⟩
        · have J4' := q3.1.1
          have jJ' := q3.2.2.1
          have S1 : Spl M' s := Spl_M h3 (q10.2.2.2.2.1 32 (by omega) (by decide)) (q10.2.2.2.1 138 (by decide) (by decide) (by decide))
          obtain ⟨M2, m1, m2, m3⟩ := settle_tot (c := c') S1 (by omega) q4.2.1 (by omega)
          refine .inl ⟨C', M', M2, j', u', c', 1, q1, fun f => ?_, m1, ⟨q3, q4, S1, by rw [q10.2.2.1 7 (by decide), h4], by rw [q10.2.2.2.2.1 30 (by omega) (by decide), h5]⟩, q5, by omega, by omega, q7, q8, q9, EG_F q10⟩
          rw [aM_cmp w6 w40, q2, Option.bind_some]
          dsimp only
          rw [if_neg (by decide), set_of m1 (by omega), Option.bind_some]
        · refine .inr ⟨C', M', 1, q1, fun f => ?_, by omega, q3⟩
          rw [aM_cmp w6 w40, q2, Option.bind_some, if_pos rfl]
/-- a condition as readAny reads it -/
theorem any_s {t : Nat → Nat} {n J : Nat} {P : Nat → Nat} {p u0 : Nat} {L0 L : List Bool} (hL : L.length = 0) {C M : mI} {j u c : Nat} (h : Syn C M t n J P j) (hR : CR C M u c) (h7 : C 109 7 = 0) (h30 : M 119 30 = 0) (hc : c + p ≤ j) (hT : Ty (C 116) u0 u L0 L) : (∃ C' M' j' u' c', r4_condition (r4_enclosed 9) C = some (1, C') ∧ r10_readAny M = some (0, M') ∧ Syn C' M' t n J P j' ∧ CR C' M' u' c' ∧ c' + p ≤ j' ∧ j < j' ∧ C' 109 7 = 0 ∧ M' 119 30 = 0 ∧ Ty (C' 116) u0 u' L0 (true :: L) ∧ u ≤ u' ∧ (∀ i, i < u → C' 116 i = C 116 i) ∧ EG C C' M M') ∨ (∃ C' M', r4_condition (r4_enclosed 9) C = some (0, C') ∧ r10_readAny M = some (-1, M') ∧ FltL C' C M' M) := by
  have fu := FU_lt (n := 500) (by omega)
  have J4 := h.1.1
  have jJ := h.2.2.1
  have hC : Cst C (mW M 119 32 0) t n J P j u c 0 [] := ⟨Syn_M h (mW_off _ _ (by decide)) (mW_ne _ _ _ (by decide)) (mW_ne _ _ _ (by decide)) (mW_off _ _ (by decide)) (mW_off _ _ (by decide)) (mW_off _ _ (by decide)) (mW_off _ _ (by decide)), CR_M hR (mW_off _ _ (by decide)) (mW_ne _ _ _ (by decide)) (mW_ne _ _ _ (by decide)), ⟨mW_at _ _ _ _, trivial⟩, h7, by rw [mW_off _ _ (by decide)]; exact h30⟩
  have rd : r10_readAny M = aM FU (nI 0) 1 (mW M 119 32 0) := rfl
  have E0 : EG C C M (mW M 119 32 0) := EG_M (fun a p _ _ _ => mW_ne _ _ _ p) (fun k p q => mW_off _ _ (by omega)) (FrM_9 (by omega))
  rcases cond_s (p := p) (b := 0) (L := L) (single_d (t := t) (n := n) (J := J) (P := P) (u0 := u0) (L0 := L0) 9 0 rfl (by omega)) (by omega) (by omega) (by omega) (by decide) (.inl rfl) hC hc hT with ⟨C', M', j', u', c', k, q1, q2, q3, q4, q5, q6, q7, q8, q9, q10⟩ | ⟨C', M', k, q1, q2, q3, q4⟩
  · obtain ⟨g1, g2, g3, g4, g5⟩ := q3
    have J4' := g1.1.1
    have jJ' := g1.2.2.1
    refine .inl ⟨C', M', j', u', c', q1, ?_, g1, g2, q4, q6, g4, g5, q7, q8, q9, EG_t E0 q10⟩
    have := q2 (FU - k)
    rw [show FU - k + k = FU by omega] at this
    rw [rd, this]
    unfold aN
    rw [if_pos nI_0]
  · refine .inr ⟨C', M', q1, ?_, FltL_t q4 (EG_C E0) E0.2.2.2.2.2⟩
    have := q2 (FU - k)
    rw [show FU - k + k = FU by omega] at this
    rw [rd, this]

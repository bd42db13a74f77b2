/-! TEXT: the loop over the lines, in step -/
def tlM (r : (Int32 × mI) ⊕ (Int32 × mI)) : Option (Int32 × mI) := match r with | .inl rz0 => some rz0 | .inr wz0 => (if wz0.2 119 18 = 0 then some (wz0.1, wz0.2) else (r10_errs wz0.2 1).bind fun z2 => some (z2.1, z2.2) : Option (Int32 × mI)).bind fun z1 => some (z1.1, z1.2)
def rgt (k κ : Int32) : Int32 := if k = 0 then (if 2 < κ then 0 else 1) else if k = 3 then (if κ = 21 then 1 else 0) else (if κ = 19 then 1 else 0)
def lnC (k : Int32) (C : mI) : Option mI := if k = 0 then (r4_lawLine C).bind fun z3 => some z3.2 else if k = 1 then (r4_programmeLine C).bind fun z4 => some z4.2 else if k = 2 then (r4_careLine C).bind fun z5 => some z5.2 else (r4_likenessLine C).bind fun z6 => some z6.2
theorem rgt_01 (k κ : Int32) : rgt k κ = 0 ∨ rgt k κ = 1 := by
  unfold rgt
  repeat' split
  all_goals first | exact .inl rfl | exact .inr rfl
theorem rgt_129 (k : Int32) : rgt k 129 = 0 := by
  unfold rgt
  rw [if_pos (show (2 : Int32) < 129 by decide), if_neg (show ¬ (129 : Int32) = 21 by decide), if_neg (show ¬ (129 : Int32) = 19 by decide), ite_self, ite_self]
theorem rgt_e (k κ : Int32) : (if k = 0 then (if 2 < κ then some 0 else some 1) else if k = 3 then (if κ = 21 then some 1 else some 0) else (if κ = 19 then some 1 else some 0) : Option Int32) = some (rgt k κ) := by
  unfold rgt
  repeat' split
  all_goals rfl
theorem mb_n {C : mI} {k κ : Int32} (h : r4_kind C = some κ) (hr : rgt k κ = 0) : r4_mayBegin C k = (r4_blame C 1).bind fun z4 => some (z4.1 &&& 1, z4.2) := by
  unfold r4_mayBegin
  rw [h, Option.bind_some, rgt_e, Option.bind_some, if_pos hr]
theorem mb_y {C : mI} {k κ : Int32} (h : r4_kind C = some κ) (hr : rgt k κ = 1) (hl : C 114 2 < 16) : r4_mayBegin C k = some (1, C) := by
  unfold r4_mayBegin
  rw [h, Option.bind_some, rgt_e, Option.bind_some, if_neg (by rw [hr]; exact one_n0), if_pos hl, Option.bind_some]
  show some ((1 : Int32) &&& 1, C) = _
  rw [and1.1]
theorem mb_16 {C C' : mI} {k κ : Int32} (h : r4_kind C = some κ) (hr : rgt k κ = 1) (hl : ¬ C 114 2 < 16) (hb : r4_blame C 3 = some (0, C')) : r4_mayBegin C k = some (0, C') := by
  unfold r4_mayBegin
  rw [h, Option.bind_some, rgt_e, Option.bind_some, if_neg (by rw [hr]; exact one_n0), if_neg hl, hb, Option.bind_some, if_pos rfl, Option.bind_some]
  show some ((0 : Int32) &&& 1, C') = _
  rw [and1.2]
theorem rs_go {C : mI} {k κ : Int32} {l : Nat} (hl : l ≤ 16) (h0 : C 109 11 = 0) (h : r4_kind C = some κ) (hn : ¬ κ = 129) (h2 : C 114 2 = nI l) (f : Nat) : l4_readScript_55 k (f + 1) (nI l) C = (r4_mayBegin C k).bind fun z1 => (if z1.1 = 0 then some z1.2 else lnC k z1.2 : Option mI).bind fun z2 => l4_readScript_55 k f (nI (l + 1)) (mW z2 114 2 (nI (l + 1))) := by
  rw [l4_readScript_55, if_neg (show ¬ (16 : Int32) < nI l from nI_nlt (a := 16) hl (by decide)), if_pos h0, h, Option.bind_some, if_neg hn, mW_id h2, nI_1]
  rfl
theorem rs_fin {C : mI} {k : Int32} {l : Nat} (hl : l ≤ 16) (h0 : C 109 11 = 0) (h : r4_kind C = some 129) (f : Nat) : l4_readScript_55 k (f + 1) (nI l) C = some C := by
  rw [l4_readScript_55, if_neg (show ¬ (16 : Int32) < nI l from nI_nlt (a := 16) hl (by decide)), if_pos h0, h, Option.bind_some, if_pos rfl]
theorem rs_flt {C : mI} {k y : Int32} (h0 : ¬ C 109 11 = 0) (f : Nat) : l4_readScript_55 k (f + 1) y C = some C := by
  rw [l4_readScript_55, if_neg h0, ite_self]
theorem Flt_2 {C M : mI} (h : Flt C M) (x : Int32) : Flt (mW C 114 2 x) M := by
  unfold Flt at *
  rw [mW_ne _ _ _ (by decide)]; exact h
theorem lines_go {t : Nat → Nat} {n J : Nat} {P : Nat → Nat} {k : Int32} {lineC : mI → Option (Int32 × mI)} {LM : Nat → Int32 → mI → Option ((Int32 × mI) ⊕ (Int32 × mI))} {mb : mI → Int32} {lineM : Nat → mI → Option (Int32 × mI)} {Pi : mI → mI → Nat → Nat → Prop} {C0 M0 : mI} (hlc : ∀ C, lnC k C = (lineC C).bind fun z => some z.2) (hLM : ∀ f l M, l ≤ 16 → LM (f + 1) (nI l) M = if mb M = 0 then some (.inr (nI l, M)) else if nI l = 16 then (r10_errs M 3).bind fun z => some (.inl (z.1, z.2)) else (lineM l M).bind fun z0 => if z0.1 = -1 then some (.inl (-1, z0.2)) else LM f (nI (l + 1)) z0.2) (hmb : ∀ C M j, Syn C M t n J P j → mb M = rgt k (C 111 j)) (hF : ∀ C M l j, Pi C M l j → FrC C0 C ∧ FrM M0 M ∧ C 109 11 = 0) (hP2 : ∀ C M l j x, Pi C M l j → Pi (mW C 114 2 x) M l j) (hs : ∀ C M j l, l < 16 → Syn C M t n J P j → C 114 2 = nI l → Pi C M l j → rgt k (C 111 j) = 1 → (∃ C' M' j' v, lineC C = some (1, C') ∧ lineM l M = some (v, M') ∧ ¬ v = -1 ∧ Syn C' M' t n J P j' ∧ Pi C' M' (l + 1) j') ∨ (∃ C' M', lineC C = some (0, C') ∧ lineM l M = some (-1, M') ∧ Flt C' M' ∧ FrC C C' ∧ FrM M M')) : ∀ d l, l + d = 16 → ∀ C M j, Syn C M t n J P j → C 114 2 = nI l → Pi C M l j → (∃ C' M' n' j', n' ≤ 16 ∧ (∀ f, d + 1 < f → l4_readScript_55 k f (nI l) C = some C') ∧ (∀ f, d < f → (LM f (nI l) M).bind tlM = some (nI n', M')) ∧ C' 114 2 = nI n' ∧ Pi C' M' n' j') ∨ (∃ C' M', (∀ f, d + 1 < f → l4_readScript_55 k f (nI l) C = some C') ∧ (∀ f, d < f → (LM f (nI l) M).bind tlM = some (-1, M')) ∧ Flt C' M' ∧ FrC C0 C' ∧ FrM M0 M') := by
  intro d
  induction d with
  | zero =>
    intro l hl C M j h h2 hp
    obtain ⟨p1, p2, p3⟩ := hF C M l j hp
    by_cases e129 : C 111 j = 129
    · refine .inl ⟨C, M, l, j, by omega, fun f hf => ?_, fun f hf => ?_, h2, hp⟩
      · obtain ⟨f, rfl⟩ : ∃ g, f = g + 1 := ⟨f - 1, by omega⟩
        exact rs_fin (by omega) p3 (by rw [kind_e h, e129]) f
      · obtain ⟨f, rfl⟩ : ∃ g, f = g + 1 := ⟨f - 1, by omega⟩
        rw [hLM f l M (by omega), hmb C M j h, e129, if_pos (rgt_129 k), Option.bind_some]
        unfold tlM
        dsimp only
        rw [if_pos ((end_e h).mpr e129), Option.bind_some]
    · rcases rgt_01 k (C 111 j) with hr | hr
      · obtain ⟨C1, M1, b1, b2, b3, b4, b5⟩ := blame_e h (w := 1) (by decide)
        refine .inr ⟨mW C1 114 2 (nI (l + 1)), M1, fun f hf => ?_, fun f hf => ?_, Flt_2 b3 _, FrC_t p1 (FrC_t b4 (FrC_w (by omega))), FrM_t p2 b5⟩
        · obtain ⟨f, rfl⟩ : ∃ g, f = g + 1 + 1 := ⟨f - 2, by omega⟩
          rw [rs_go (by omega) p3 (kind_e h) e129 h2, mb_n (kind_e h) hr, b1, Option.bind_some, Option.bind_some]
          dsimp only
          rw [and1.2, if_pos rfl, Option.bind_some, rs_flt (Flt_2 b3 _).1]
        · obtain ⟨f, rfl⟩ : ∃ g, f = g + 1 := ⟨f - 1, by omega⟩
          rw [hLM f l M (by omega), hmb C M j h, if_pos hr, Option.bind_some]
          unfold tlM
          dsimp only
          rw [if_neg (fun q => e129 ((end_e h).mp q)), b2, Option.bind_some, Option.bind_some]
      · obtain ⟨C1, M1, b1, b2, b3, b4, b5⟩ := blame_e h (w := 3) (by decide)
        have l16 : l = 16 := by omega
        refine .inr ⟨mW C1 114 2 (nI (l + 1)), M1, fun f hf => ?_, fun f hf => ?_, Flt_2 b3 _, FrC_t p1 (FrC_t b4 (FrC_w (by omega))), FrM_t p2 b5⟩
        · obtain ⟨f, rfl⟩ : ∃ g, f = g + 1 + 1 := ⟨f - 2, by omega⟩
          rw [rs_go (by omega) p3 (kind_e h) e129 h2, mb_16 (kind_e h) hr (by rw [h2, l16]; decide) b1, Option.bind_some]
          dsimp only
          rw [if_pos rfl, Option.bind_some, rs_flt (Flt_2 b3 _).1]
        · obtain ⟨f, rfl⟩ : ∃ g, f = g + 1 := ⟨f - 1, by omega⟩
          rw [hLM f l M (by omega), hmb C M j h, if_neg (by rw [hr]; exact one_n0), if_pos (by rw [l16]; rfl), b2, Option.bind_some, Option.bind_some]
          rfl
  | succ d ih =>
    intro l hl C M j h h2 hp
    obtain ⟨p1, p2, p3⟩ := hF C M l j hp
    by_cases e129 : C 111 j = 129
    · refine .inl ⟨C, M, l, j, by omega, fun f hf => ?_, fun f hf => ?_, h2, hp⟩
      · obtain ⟨f, rfl⟩ : ∃ g, f = g + 1 := ⟨f - 1, by omega⟩
        exact rs_fin (by omega) p3 (by rw [kind_e h, e129]) f
      · obtain ⟨f, rfl⟩ : ∃ g, f = g + 1 := ⟨f - 1, by omega⟩
        rw [hLM f l M (by omega), hmb C M j h, e129, if_pos (rgt_129 k), Option.bind_some]
        unfold tlM
        dsimp only
        rw [if_pos ((end_e h).mpr e129), Option.bind_some]
    · rcases rgt_01 k (C 111 j) with hr | hr
      · obtain ⟨C1, M1, b1, b2, b3, b4, b5⟩ := blame_e h (w := 1) (by decide)
        refine .inr ⟨mW C1 114 2 (nI (l + 1)), M1, fun f hf => ?_, fun f hf => ?_, Flt_2 b3 _, FrC_t p1 (FrC_t b4 (FrC_w (by omega))), FrM_t p2 b5⟩
        · obtain ⟨f, rfl⟩ : ∃ g, f = g + 1 + 1 := ⟨f - 2, by omega⟩
          rw [rs_go (by omega) p3 (kind_e h) e129 h2, mb_n (kind_e h) hr, b1, Option.bind_some, Option.bind_some]
          dsimp only
          rw [and1.2, if_pos rfl, Option.bind_some, rs_flt (Flt_2 b3 _).1]
        · obtain ⟨f, rfl⟩ : ∃ g, f = g + 1 := ⟨f - 1, by omega⟩
          rw [hLM f l M (by omega), hmb C M j h, if_pos hr, Option.bind_some]
          unfold tlM
          dsimp only
          rw [if_neg (fun q => e129 ((end_e h).mp q)), b2, Option.bind_some, Option.bind_some]
      · have l16 : l < 16 := by omega
        have my : r4_mayBegin C k = some (1, C) := mb_y (kind_e h) hr (by rw [h2]; exact (nI_ltk 16 16 rfl (by decide) (by omega)).mpr l16)
        have n16 : ¬ nI l = 16 := by rw [nI_eqk 16 16 rfl (by decide) (by omega)]; omega
        have rM : ∀ f, LM (f + 1) (nI l) M = (lineM l M).bind fun z0 => if z0.1 = -1 then some (.inl (-1, z0.2)) else LM f (nI (l + 1)) z0.2 := fun f => by
          rw [hLM f l M (by omega), hmb C M j h, if_neg (by rw [hr]; exact one_n0), if_neg n16]
        have rC : ∀ f, l4_readScript_55 k (f + 1) (nI l) C = ((lineC C).bind fun z => some z.2).bind fun z2 => l4_readScript_55 k f (nI (l + 1)) (mW z2 114 2 (nI (l + 1))) := fun f => by
          rw [rs_go (by omega) p3 (kind_e h) e129 h2, my, Option.bind_some]
          dsimp only
          rw [if_neg one_n0, hlc]
        rcases hs C M j l l16 h h2 hp hr with ⟨C1, M1, j1, v, a1, a2, a3, a4, a5⟩ | ⟨C1, M1, b1, b2, b3, b4, b5⟩
        · have S1 : Syn (mW C1 114 2 (nI (l + 1))) M1 t n J P j1 := Syn_C a4 (mW_ne _ _ _ (by decide)) (mW_ne _ _ _ (by decide)) (mW_ne _ _ _ (by decide)) (by rw [mW_ne _ _ _ (by decide)]) (by rw [mW_ne _ _ _ (by decide)])
          rcases ih (l + 1) (by omega) (mW C1 114 2 (nI (l + 1))) M1 j1 S1 (mW_at _ _ _ _) (hP2 C1 M1 (l + 1) j1 _ a5) with ⟨C', M', n', j', q0, q1, q2, q3, q4⟩ | ⟨C', M', q1, q2, q3, q4, q5⟩
          · refine .inl ⟨C', M', n', j', q0, fun f hf => ?_, fun f hf => ?_, q3, q4⟩
            · obtain ⟨f, rfl⟩ : ∃ g, f = g + 1 := ⟨f - 1, by omega⟩
              rw [rC, a1, Option.bind_some, Option.bind_some]
              exact q1 f (by omega)
            · obtain ⟨f, rfl⟩ : ∃ g, f = g + 1 := ⟨f - 1, by omega⟩
              rw [rM, a2, Option.bind_some]
              dsimp only
              rw [if_neg a3]
              exact q2 f (by omega)
          · refine .inr ⟨C', M', fun f hf => ?_, fun f hf => ?_, q3, q4, q5⟩
            · obtain ⟨f, rfl⟩ : ∃ g, f = g + 1 := ⟨f - 1, by omega⟩
              rw [rC, a1, Option.bind_some, Option.bind_some]
              exact q1 f (by omega)
            · obtain ⟨f, rfl⟩ : ∃ g, f = g + 1 := ⟨f - 1, by omega⟩
              rw [rM, a2, Option.bind_some]
              dsimp only
              rw [if_neg a3]
              exact q2 f (by omega)
        · refine .inr ⟨mW C1 114 2 (nI (l + 1)), M1, fun f hf => ?_, fun f hf => ?_, Flt_2 b3 _, FrC_t p1 (FrC_t b4 (FrC_w (by omega))), FrM_t p2 b5⟩
          · obtain ⟨f, rfl⟩ : ∃ g, f = g + 1 + 1 := ⟨f - 2, by omega⟩
            rw [rC, b1, Option.bind_some, Option.bind_some]
            exact rs_flt (Flt_2 b3 _).1 f
          · obtain ⟨f, rfl⟩ : ∃ g, f = g + 1 := ⟨f - 1, by omega⟩
            rw [rM, b2, Option.bind_some]
            dsimp only
            rw [if_pos rfl, Option.bind_some]
            rfl

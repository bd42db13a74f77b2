/-! TEXT: an expression of the law, in step -/
def eC (f : Nat) (wt y2 : Int32) (y3 : Nat) (C : mI) : Option (Int32 × mI) := (l4_expression_9 f wt y2 (nI y3) C).bind fun z1 => (if z1.1 = -1 then some z1.2.2 else (r6_emit_114 z1.2.2 z1.1 0).bind fun z3 => some z3 : Option mI).bind fun z2 => some (z1.2.1 &&& 1, z2)
def kM (wt : Int32) (f g : Nat) (M : mI) : Option ((Int32 × mI) ⊕ mI) := (l10_readProduct_10 f M).bind fun z => match z with | .inl e => some (.inl e) | .inr M1 => (if wt = -1 then some M1 else r10_emits M1 wt 0 : Option mI).bind fun M2 => l10_readSum_10 g M2
theorem rp_star {M : mI} (h : r10_isSign M 42 = 1) (f : Nat) : l10_readProduct_10 (f + 1) M = (r10_reads M).bind fun z0 => (r10_readUnit z0).bind fun z1 => if z1.1 = -1 then some (.inl (-1, z1.2)) else (r10_emits z1.2 4 0).bind fun z3 => l10_readProduct_10 f z3 := by
  rw [l10_readProduct_10]
  simp (decide := true) only [h, reduceIte, Option.bind_some]
theorem rp_slash {M : mI} (h : r10_isSign M 42 = 0) (h7 : r10_isSign M 47 = 1) (f : Nat) : l10_readProduct_10 (f + 1) M = (r10_reads M).bind fun z0 => if z0 119 18 = 3 then if z0 119 19 = 0 then (r10_errs z0 2).bind fun z => some (.inl (z.1, z.2)) else (r10_readUnit z0).bind fun z1 => if z1.1 = -1 then some (.inl (-1, z1.2)) else (r10_emits z1.2 5 0).bind fun z3 => l10_readProduct_10 f z3 else (r10_errs z0 1).bind fun z => some (.inl (z.1, z.2)) := by
  rw [l10_readProduct_10]
  simp (decide := true) only [h, h7, reduceIte, Option.bind_some]
theorem rp_end {M : mI} (h : r10_isSign M 42 = 0) (h7 : r10_isSign M 47 = 0) (f : Nat) : l10_readProduct_10 (f + 1) M = some (.inr M) := by
  rw [l10_readProduct_10]
  simp (decide := true) only [h, h7, reduceIte]
theorem rs_sign {M : mI} {op : Int32} (h : (r10_isSign M 43 = 1 ∧ op = 2) ∨ (r10_isSign M 43 = 0 ∧ r10_isSign M 45 = 1 ∧ op = 3)) (ho : (if M 119 19 = 43 then 2 else 3 : Int32) = op) (f : Nat) : l10_readSum_10 (f + 1) M = (r10_reads M).bind fun z1 => (r10_readProduct z1).bind fun z2 => if z2.1 = -1 then some (.inl (-1, z2.2)) else (r10_emits z2.2 op 0).bind fun z3 => l10_readSum_10 f z3 := by
  rw [l10_readSum_10, ite_some, ho]
  rcases h with ⟨a, _⟩ | ⟨a, b, _⟩
  · rw [if_neg (by rw [a]; exact one_n0), Option.bind_some]
  · rw [if_pos a, if_neg (by rw [b]; exact one_n0), Option.bind_some]
theorem rs_end {M : mI} (h : r10_isSign M 43 = 0) (h7 : r10_isSign M 45 = 0) (f : Nat) : l10_readSum_10 (f + 1) M = some (.inr M) := by
  rw [l10_readSum_10, if_pos h, if_pos h7]
/-- an emission behind a fault changes nothing that counts -/
theorem emit_F {C C0 M M0 : mI} (h : FltL C C0 M M0) (x y : Int32) : ∃ C', r6_emit_114 C x y = some C' ∧ FltL C' C0 M M0 := by
  obtain ⟨f, g, k, u, hu, eu⟩ := h
  unfold r6_emit_114
  rw [eu]
  by_cases z : u = 400
  · refine ⟨C, ?_, f, g, k, u, hu, eu⟩
    rw [z, if_pos (by decide), Option.bind_some]
  · refine ⟨mW (mW C 116 u (y * 16 + x)) 114 3 (nI (u + 1)), ?_, ⟨by rw [mW_ne _ _ _ (by decide), mW_ne _ _ _ (by decide)]; exact f.1, by rw [mW_ne _ _ _ (by decide), mW_ne _ _ _ (by decide)]; exact f.2.1, by rw [mW_ne _ _ _ (by decide), mW_ne _ _ _ (by decide)]; exact f.2.2⟩, FrC_t g (FrC_t (FrC_w (by omega)) (FrC_w (by omega))), k, u + 1, by omega, mW_at _ _ _ _⟩
    rw [if_neg (show ¬ (400 : Int32) ≤ nI u from nI_ge (b := 400) (by omega) (by decide)), mSto_n (by omega) (by decide), Option.bind_some, mW_ne _ _ _ (show 114 ≠ 116 by decide), eu, nI_1, Option.bind_some]
theorem FltL_t {C C0 C1 M M0 M1 : mI} (h : FltL C C1 M M1) (hC : FrC C0 C1) (hM : FrM M0 M1) : FltL C C0 M M0 := ⟨h.1, FrC_t hC h.2.1, FrM_t hM h.2.2.1, h.2.2.2⟩
theorem l4_0 (f : Nat) (wt : Int32) (y3 : Nat) (C : mI) : l4_expression_9 (f + 1) wt 0 (nI y3) C = some (wt, 0, C) := by
  rw [l4_expression_9, if_pos (show (0 : Int32) = 0 from rfl), ite_self]
/-- the class's loop behind a fault -/
theorem eC_0 {C C0 M M0 : mI} (h : FltL C C0 M M0) {wt : Int32} (f y3 : Nat) : ∃ C', eC (f + 1) wt 0 y3 C = some (0, C') ∧ FltL C' C0 M M0 := by
  have st : l4_expression_9 (f + 1) wt 0 (nI y3) C = some (wt, 0, C) := by
    rw [l4_expression_9, if_pos (show (0 : Int32) = 0 from rfl), ite_self]
  unfold eC
  rw [st, Option.bind_some]
  dsimp only
  by_cases z : wt = -1
  · refine ⟨C, ?_, h⟩
    rw [if_pos z, Option.bind_some, and1.2]
  · obtain ⟨C', e1, e2⟩ := emit_F h wt 0
    refine ⟨C', ?_, e2⟩
    rw [if_neg z, e1, Option.bind_some, Option.bind_some, and1.2]
theorem eC_0u {C C0 M M0 : mI} (h : FltL C C0 M M0) (wt : Int32) (y3 : Nat) : ∃ C', (∀ f, eC (f + 1) wt 0 y3 C = some (0, C')) ∧ FltL C' C0 M M0 := by
  obtain ⟨C', e1, e2⟩ := eC_0 h (wt := wt) 0 y3
  refine ⟨C', fun f => ?_, e2⟩
  rw [← e1]
  unfold eC
  rw [l4_0, l4_0]
/-- where the expression ends -/
def ExO (C M : mI) (t : Nat → Nat) (n J : Nat) (P : Nat → Nat) (u0 : Nat) (L : List Bool) (p j u : Nat) (A : Nat → Option (Int32 × mI)) (B : Nat → Nat → Option ((Int32 × mI) ⊕ mI)) (k : Nat) : Prop := (∃ C' M' j' u' c', (∀ f, k < f → A f = some (1, C')) ∧ (∀ f g, k < f → k < g → B f g = some (.inr M')) ∧ Syn C' M' t n J P j' ∧ CR C' M' u' c' ∧ c' + p ≤ j' ∧ j ≤ j' ∧ Ty (C' 116) u0 u' L (false :: L) ∧ u ≤ u' ∧ (∀ i, i < u → C' 116 i = C 116 i) ∧ EF C C' M M') ∨ (∃ C' M', (∀ f, k < f → A f = some (0, C')) ∧ (∀ f g, k < f → k < g → B f g = some (.inl (-1, M'))) ∧ FltL C' C M' M)
theorem ExO_pre {C M C1 M1 : mI} {t : Nat → Nat} {n J : Nat} {P : Nat → Nat} {u0 : Nat} {L : List Bool} {p j j1 u u1 : Nat} {A A1 : Nat → Option (Int32 × mI)} {B B1 : Nat → Nat → Option ((Int32 × mI) ⊕ mI)} {k k1 : Nat} (h : ExO C1 M1 t n J P u0 L p j1 u1 A1 B1 k1) (hA : ∀ f, k < f → ∃ f', k1 < f' ∧ A f = A1 f') (hB : ∀ f g, k < f → k < g → ∃ f' g', k1 < f' ∧ k1 < g' ∧ B f g = B1 f' g') (hj : j ≤ j1) (hu : u ≤ u1) (hc : ∀ i, i < u → C1 116 i = C 116 i) (hE : EF C C1 M M1) : ExO C M t n J P u0 L p j u A B k := by
  rcases h with ⟨C', M', j', u', c', a1, a2, a3, a4, a5, a6, a7, a8, a9, a10⟩ | ⟨C', M', a1, a2, a3⟩
  · refine .inl ⟨C', M', j', u', c', fun f hf => ?_, fun f g hf hg => ?_, a3, a4, a5, by omega, a7, by omega, fun i hi => by rw [a9 i (by omega), hc i hi], EF_t hE a10⟩
    · obtain ⟨f', h1, h2⟩ := hA f hf
      rw [h2, a1 f' h1]
    · obtain ⟨f', g', h1, h2, h3⟩ := hB f g hf hg
      rw [h3, a2 f' g' h1 h2]
  · refine .inr ⟨C', M', fun f hf => ?_, fun f g hf hg => ?_, FltL_t a3 (EF_C hE) hE.2.2.2.2.2⟩
    · obtain ⟨f', h1, h2⟩ := hA f hf
      rw [h2, a1 f' h1]
    · obtain ⟨f', g', h1, h2, h3⟩ := hB f g hf hg
      rw [h3, a2 f' g' h1 h2]
theorem recko {κ : Int32} : r4_isReckoning κ = if κ = 42 ∨ κ = 47 ∨ κ = 43 ∨ κ = 45 then 1 else 0 := by
  unfold r4_isReckoning
  by_cases a : κ = 42
  · rw [if_pos a, if_pos (.inl a)]
  · by_cases b : κ = 47
    · rw [if_neg a, if_pos b, if_pos (.inr (.inl b))]
    · by_cases c : κ = 43
      · rw [if_neg a, if_neg b, if_pos c, if_pos (.inr (.inr (.inl c)))]
      · by_cases d : κ = 45
        · rw [if_neg a, if_neg b, if_neg c, if_pos d, if_pos (.inr (.inr (.inr d)))]
        · rw [if_neg a, if_neg b, if_neg c, if_neg d, if_neg (by rintro (q | q | q | q) <;> contradiction)]
theorem sg_one {C M : mI} {t : Nat → Nat} {n J : Nat} {P : Nat → Nat} {j : Nat} (h : Syn C M t n J P j) {w : Nat} (hw : 40 ≤ w ∧ w ≤ 62) {x : Int32} (hx : x = nI w) : (C 111 j = x → r10_isSign M x = 1) ∧ (¬ C 111 j = x → r10_isSign M x = 0) := by
  subst hx
  rw [sign_e h hw]
  exact ⟨fun q => if_pos q, fun q => if_neg q⟩
theorem sg_19 {C M : mI} {t : Nat → Nat} {n J : Nat} {P : Nat → Nat} {j : Nat} (h : Syn C M t n J P j) {w : Nat} (hw : 40 ≤ w ∧ w ≤ 62) (hk : C 111 j = nI w) : M 119 19 = nI w := by
  have := sign_e h hw
  rw [if_pos hk] at this
  unfold r10_isSign at this
  by_cases a : M 119 18 = 4
  · rw [if_pos a] at this
    by_cases b : M 119 19 = nI w
    · exact b
    · rw [if_neg b] at this; exact absurd this (by decide)
  · rw [if_neg a] at this; exact absurd this (by decide)
def wT (wt : Int32) (L : List Bool) : List Bool := if wt = -1 then false :: L else false :: false :: L
def wP (wt : Int32) : Nat := if wt = -1 then 0 else 1
theorem wt_op {wt : Int32} (h : wt = 2 ∨ wt = 3) : ∃ op, (op = 2 ∨ op = 3 ∨ op = 4) ∧ op < 16 ∧ op ≠ 5 ∧ wt = nI op ∧ ¬ wt = -1 := by
  rcases h with rfl | rfl
  · exact ⟨2, .inl rfl, by decide, by decide, rfl, by decide⟩
  · exact ⟨3, .inr (.inl rfl), by decide, by decide, rfl, by decide⟩
theorem expr_end {t : Nat → Nat} {n J : Nat} {P : Nat → Nat} {u0 : Nat} {L : List Bool} {p j : Nat} {C M : mI} {u c : Nat} {wt : Int32} {y3 : Nat} (k : Nat) (h : Syn C M t n J P j) (hR : CR C M u c) (hwt : wt = -1 ∨ wt = 2 ∨ wt = 3) (hc : c + wP wt + p ≤ j) (hT : Ty (C 116) u0 u L (wT wt L)) (hκ : ¬ (C 111 j = 42 ∨ C 111 j = 47 ∨ C 111 j = 43 ∨ C 111 j = 45)) : ExO C M t n J P u0 L p j u (fun f => eC f wt 1 y3 C) (fun f g => kM wt f g M) k := by
  have j4 : j ≤ 400 := by have := h.1.1; have := h.2.2.1; omega
  have st : ∀ f, l4_expression_9 (f + 1) wt 1 (nI y3) C = some (wt, 1, C) := fun f => by
    rw [l4_expression_9, if_neg one_n0, kind_e h, Option.bind_some, recko, if_neg hκ, if_pos rfl, ite_self]
  have z42 := (sg_one h (w := 42) (by omega) rfl).2 (fun q => hκ (.inl q))
  have z47 := (sg_one h (w := 47) (by omega) rfl).2 (fun q => hκ (.inr (.inl q)))
  have z43 := (sg_one h (w := 43) (by omega) rfl).2 (fun q => hκ (.inr (.inr (.inl q))))
  have z45 := (sg_one h (w := 45) (by omega) rfl).2 (fun q => hκ (.inr (.inr (.inr q))))
  rcases hwt with rfl | hwt
  · have hT : Ty (C 116) u0 u L (false :: L) := hT
    refine .inl ⟨C, M, j, u, c, fun f hf => ?_, fun f g hf hg => ?_, h, hR, by omega, Nat.le_refl _, hT, Nat.le_refl _, fun _ _ => rfl, EF_r _ _⟩
    · obtain ⟨f, rfl⟩ : ∃ g, f = g + 1 := ⟨f - 1, by omega⟩
      show eC (f + 1) _ _ _ _ = _
      unfold eC
      rw [st, Option.bind_some]
      dsimp only
      rw [if_pos rfl, Option.bind_some, and1.1]
    · obtain ⟨f, rfl⟩ : ∃ g, f = g + 1 := ⟨f - 1, by omega⟩
      obtain ⟨g, rfl⟩ : ∃ x, g = x + 1 := ⟨g - 1, by omega⟩
      show kM _ (f + 1) (g + 1) _ = _
      unfold kM
      rw [rp_end z42 z47, Option.bind_some]
      dsimp only
      rw [if_pos rfl, Option.bind_some, rs_end z43 z45]
  · obtain ⟨op, o1, o2, o3, o4, o5⟩ := wt_op hwt
    have hT : Ty (C 116) u0 u L (false :: false :: L) := by
      have e : wT wt L = false :: false :: L := if_neg o5
      rw [e] at hT; exact hT
    have hc : c + 1 + p ≤ j := by
      have e : wP wt = 1 := if_neg o5
      rw [e] at hc; exact hc
    obtain ⟨C1, M1, a1, a2, a3, a4, a5, a6, a7, a8, a9⟩ := emit_s hR (by omega) o2 o3 (arg := 0) (by omega) o4 (y := 0) rfl o4 (y' := 0) rfl
    have e18 : ∀ x, r10_isSign M1 x = r10_isSign M x := fun x => by
      unfold r10_isSign
      rw [a8 18 (by decide), a8 19 (by decide)]
    refine .inl ⟨C1, M1, j, u + 1, c + 1, fun f hf => ?_, fun f g hf hg => ?_, Syn_em h a5 a7 a8, a3, hc, Nat.le_refl _, by rw [a4]; exact Ty_emit hT (cTy_sum o1), by omega, fun i hi => by rw [a4, mU_ne _ _ (by omega)], fun a h9 h4 h6 => a5 a h4 h6, a6, fun k _ => by rw [a5 109 (by decide) (by decide)], a7, fun k _ h29 => a8 k h29, a9⟩
    · obtain ⟨f, rfl⟩ : ∃ g, f = g + 1 := ⟨f - 1, by omega⟩
      show eC (f + 1) _ _ _ _ = _
      unfold eC
      rw [st, Option.bind_some]
      dsimp only
      rw [if_neg o5, a1, Option.bind_some, Option.bind_some, and1.1]
    · obtain ⟨f, rfl⟩ : ∃ g, f = g + 1 := ⟨f - 1, by omega⟩
      obtain ⟨g, rfl⟩ : ∃ x, g = x + 1 := ⟨g - 1, by omega⟩
      show kM _ (f + 1) (g + 1) _ = _
      unfold kM
      rw [rp_end z42 z47, Option.bind_some]
      dsimp only
      rw [if_neg o5, a2, Option.bind_some, rs_end (by rw [e18]; exact z43) (by rw [e18]; exact z45)]
theorem expr_go {t : Nat → Nat} {n J : Nat} {P : Nat → Nat} {u0 p : Nat} {L : List Bool} (hL : L.length ≤ 28) : ∀ k, k ≤ 400 → ∀ j C M u c (wt : Int32) (y3 : Nat), J - j ≤ k → Syn C M t n J P j → CR C M u c → (wt = -1 ∨ wt = 2 ∨ wt = 3) → c + wP wt + p ≤ j → y3 ≤ j → Ty (C 116) u0 u L (wT wt L) → ExO C M t n J P u0 L p j u (fun f => eC f wt 1 y3 C) (fun f g => kM wt f g M) k := by
  intro k
  induction k with
  | zero =>
    intro _ j C M u c wt y3 hk h hR hwt hc hy hT
    have : j = J := by have := h.2.2.1; omega
    refine expr_end 0 h hR hwt hc hT ?_
    rw [this, h.1.2.2.1]
    decide
  | succ k ih =>
    intro hk4 j C M u c wt y3 hk h hR hwt hc hy hT
    by_cases hκ : C 111 j = 42 ∨ C 111 j = 47 ∨ C 111 j = 43 ∨ C 111 j = 45
    · have ne129 : ¬ C 111 j = 129 := by rcases hκ with q | q | q | q <;> rw [q] <;> decide
      have j4 := Syn_j h ne129
      obtain ⟨C1, M1, s1, s2, s3, s4, s5⟩ := step_j h ne129
      have R1 : CR C1 M1 u c := CR_fs hR s4 s5
      have E1 : EF C C1 M M1 := EF_step s4 s5
      have wl : (wT wt L).length ≤ 30 := by
        unfold wT
        split
        · show L.length + 1 ≤ 30; omega
        · show L.length + 1 + 1 ≤ 30; omega
      have cl : ∀ f, l4_expression_9 (f + 1) wt 1 (nI y3) C = ((if C 111 j = 47 then (r4_part C1).bind fun z10 => some (wt, z10.1, z10.2) else if C 111 j = 42 then (r4_unit C1).bind fun z8 => (r6_emit_114 z8.2 4 0).bind fun z9 => some (wt, z8.1, z9) else (if wt = -1 then some C1 else (r6_emit_114 C1 wt 0).bind fun z5 => some z5 : Option mI).bind fun z4 => (if C 111 j = 43 then some 2 else some 3 : Option Int32).bind fun z6 => (r4_unit z4).bind fun z7 => some (z6, z7.1, z7.2) : Option (Int32 × Int32 × mI)).bind fun z3 => l4_expression_9 f z3.1 z3.2.1 (nI (y3 + 1)) z3.2.2) := fun f => by
        rw [l4_expression_9, if_neg (show ¬ (400 : Int32) ≤ nI y3 from nI_ge (b := 400) (by omega) (by decide)), if_neg one_n0, kind_e h, Option.bind_some, recko, if_pos hκ, if_neg one_n0, Option.bind_some, s1, Option.bind_some, nI_1]
      by_cases k42 : C 111 j = 42
      · have z42 := (sg_one h (w := 42) (by omega) rfl).1 k42
        have k47 : ¬ C 111 j = 47 := by rw [k42]; decide
        rcases unit_s s3 R1 (by omega) with ⟨C2, M2, w, q1, q2, q3, q4, q5, q6, q7⟩ | ⟨C2, M2, q1, q2, q3⟩
        · have j1J : j + 2 ≤ 400 := by have := q3.1.1; have := q3.2.2.1; omega
          obtain ⟨C3, M3, a1, a2, a3, a4, a5, a6, a7, a8, a9⟩ := emit_s q4 (op := 4) (arg := 0) (by omega) (by decide) (by decide) (by omega) (x := 4) rfl (y := 0) rfl (x' := 4) rfl (y' := 0) rfl
          have h3 : Syn C3 M3 t n J P (j + 2) := Syn_em q3 a5 a7 a8
          have T2 : Ty (C3 116) u0 (u + 1 + 1) L (wT wt L) := by
            rw [a4, q5, s4.1 116 (by decide)]
            refine Ty_emit (Ty_emit hT (q6 _ (by omega))) ?_
            unfold wT
            split
            · exact cTy_sum (.inr (.inr rfl))
            · exact cTy_sum (.inr (.inr rfl))
          have I := ih (by omega) (j + 2) C3 M3 (u + 1 + 1) (c + 1 + 1) wt (y3 + 1) (by omega) h3 a3 hwt (by omega) (by omega) T2
          refine ExO_pre I (fun f hf => ?_) (fun f g hf hg => ?_) (by omega) (by omega) (fun i hi => by rw [a4, mU_ne _ _ (by omega), q5, mU_ne _ _ (by omega), s4.1 116 (by decide)]) (EF_t E1 (EF_t q7 ⟨fun a h9 h4 h6 => a5 a h4 h6, a6, fun k _ => by rw [a5 109 (by decide) (by decide)], a7, fun k _ h29 => a8 k h29, a9⟩))
          · obtain ⟨f, rfl⟩ : ∃ g, f = g + 1 := ⟨f - 1, by omega⟩
            refine ⟨f, by omega, ?_⟩
            show eC (f + 1) _ _ _ _ = eC f _ _ _ _
            unfold eC
            rw [cl, if_neg k47, if_pos k42, q1, Option.bind_some, a1, Option.bind_some, Option.bind_some]
          · obtain ⟨f, rfl⟩ : ∃ g, f = g + 1 := ⟨f - 1, by omega⟩
            refine ⟨f, g, by omega, by omega, ?_⟩
            show kM _ (f + 1) g _ = kM _ f g _
            unfold kM
            rw [rp_star z42, s2, Option.bind_some, q2, Option.bind_some]
            dsimp only
            rw [if_neg (by decide), a2, Option.bind_some]
        · obtain ⟨C3, e1, e2⟩ := emit_F q3 4 0
          obtain ⟨C4, e3, e4⟩ := eC_0u (FltL_t e2 (EF_C E1) E1.2.2.2.2.2) wt (y3 + 1)
          refine .inr ⟨C4, M2, fun f hf => ?_, fun f g hf hg => ?_, e4⟩
          · obtain ⟨f, rfl⟩ : ∃ g, f = g + 2 := ⟨f - 2, by omega⟩
            show eC (f + 1 + 1) _ _ _ _ = _
            rw [← e3 f]
            unfold eC
            rw [cl, if_neg k47, if_pos k42, q1, Option.bind_some, e1, Option.bind_some, Option.bind_some]
          · obtain ⟨f, rfl⟩ : ∃ g, f = g + 1 := ⟨f - 1, by omega⟩
            show kM _ (f + 1) g _ = _
            unfold kM
            rw [rp_star z42, s2, Option.bind_some, q2, Option.bind_some]
            dsimp only
            rw [if_pos rfl, Option.bind_some]
      · by_cases k47 : C 111 j = 47
        · have z42 := (sg_one h (w := 42) (by omega) rfl).2 k42
          have z47 := (sg_one h (w := 47) (by omega) rfl).1 k47
          -- behind a fault
          have bad : ∀ C2 M2, r4_part C1 = some (0, C2) → (∀ f, l10_readProduct_10 (f + 1) M = some (.inl (-1, M2))) → FltL C2 C1 M2 M1 → ExO C M t n J P u0 L p j u (fun f => eC f wt 1 y3 C) (fun f g => kM wt f g M) (k + 1) := by
            intro C2 M2 q1 q2 q3
            obtain ⟨C4, e3, e4⟩ := eC_0u (FltL_t q3 (EF_C E1) E1.2.2.2.2.2) wt (y3 + 1)
            refine .inr ⟨C4, M2, fun f hf => ?_, fun f g hf hg => ?_, e4⟩
            · obtain ⟨f, rfl⟩ : ∃ g, f = g + 2 := ⟨f - 2, by omega⟩
              show eC (f + 1 + 1) _ _ _ _ = _
              rw [← e3 f]
              unfold eC
              rw [cl, if_pos k47, q1, Option.bind_some, Option.bind_some]
            · obtain ⟨f, rfl⟩ : ∃ g, f = g + 1 := ⟨f - 1, by omega⟩
              show kM _ (f + 1) g _ = _
              unfold kM
              rw [q2, Option.bind_some]
          by_cases kd : C1 111 (j + 1) = 128
          · obtain ⟨a, ha, ea⟩ := val_lt s3 kd
            have m18 := (num_e s3).1.mpr kd
            have m19 := (num_e s3).2 kd
            by_cases a0 : a = 0
            · obtain ⟨C2, M2, b1, b2, b3⟩ := blame_L s3 R1 (w := 2) (by decide)
              refine bad C2 M2 ?_ (fun f => ?_) b3
              · unfold r4_part
                rw [kind_e s3, Option.bind_some, if_pos kd, value_e s3, Option.bind_some, ea, a0, if_pos nI_0]
                exact b1
              · rw [rp_slash z42 z47, s2, Option.bind_some, if_pos m18, m19, ea, a0, if_pos nI_0, b2, Option.bind_some]
            · have j2 := Syn_j s3 (by rw [kd]; decide)
              have v0 : ¬ nI a = 0 := nI_ne0 (by omega) (by omega)
              obtain ⟨C2, a1, a2, a3, a4, Ma, b1, b2, b3, b4, cont⟩ := part_s R1 (by omega) ha (y := nI a) rfl
              have h2 : Syn C2 Ma t n J P (j + 1) := Syn_em s3 a3 b2 b3
              obtain ⟨C3, Mb, q1, q2, q3, q4, q5⟩ := step_j h2 (by rw [a3 111 (by decide) (by decide), kd]; decide)
              obtain ⟨Mc, d1, d2, d3, d4, d5⟩ := cont Mb (q5.2 29 (by omega)) q5.1
              have h3 : Syn C3 Mc t n J P (j + 1 + 1) := Syn_em q3 (fun _ _ _ => rfl) d3 d4
              have R3 : CR C3 Mc (u + 1) (c + 2) := CR_fs d2 q4 ⟨fun _ _ => rfl, fun _ _ => rfl⟩
              have ru : r10_readUnit M1 = some (0, Mb) := by
                unfold r10_readUnit
                rw [if_neg (show ¬ M1 119 18 = 2 by rw [m18]; decide), Option.bind_some, if_pos rfl, if_pos m18, if_pos rfl, if_pos rfl, Option.bind_some, Option.bind_some, m19, ea, b1, Option.bind_some, q2, Option.bind_some]
              have T3 : Ty (C3 116) u0 (u + 1) L (wT wt L) := by
                rw [q4.1 116 (by decide), a2, s4.1 116 (by decide)]
                refine Ty_emit hT ?_
                unfold wT
                split
                · exact cTy_part ha a0
                · exact cTy_part ha a0
              have I := ih (by omega) (j + 1 + 1) C3 Mc (u + 1) (c + 2) wt (y3 + 1) (by omega) h3 R3 hwt (by omega) (by omega) T3
              refine ExO_pre I (fun f hf => ?_) (fun f g hf hg => ?_) (by omega) (by omega) (fun i hi => by rw [q4.1 116 (by decide), a2, mU_ne _ _ (by omega), s4.1 116 (by decide)]) (EF_t E1 (EF_t (EF_t (B' := Ma) ⟨fun a h9 h4 h6 => a3 a h4 h6, a4, fun k _ => by rw [a3 109 (by decide) (by decide)], b2, fun k _ h29 => b3 k h29, b4⟩ (EF_step q4 q5)) ⟨fun _ _ _ _ => rfl, fun _ _ => rfl, fun _ _ => rfl, d3, fun k _ h29 => d4 k h29, d5⟩))
              · obtain ⟨f, rfl⟩ : ∃ g, f = g + 1 := ⟨f - 1, by omega⟩
                refine ⟨f, by omega, ?_⟩
                show eC (f + 1) _ _ _ _ = eC f _ _ _ _
                unfold eC
                have rp : r4_part C1 = some (1, C3) := by
                  unfold r4_part
                  rw [kind_e s3, Option.bind_some, if_pos kd, value_e s3, Option.bind_some, ea, if_neg v0, Option.bind_some, a1, Option.bind_some, q1, Option.bind_some]
                rw [cl, if_pos k47, rp, Option.bind_some, Option.bind_some]
              · obtain ⟨f, rfl⟩ : ∃ g, f = g + 1 := ⟨f - 1, by omega⟩
                refine ⟨f, g, by omega, by omega, ?_⟩
                show kM _ (f + 1) g _ = kM _ f g _
                unfold kM
                rw [rp_slash z42 z47, s2, Option.bind_some, if_pos m18, m19, ea, if_neg v0, ru, Option.bind_some]
                dsimp only
                rw [if_neg (by decide), d1, Option.bind_some]
          · obtain ⟨C2, M2, b1, b2, b3⟩ := blame_L s3 R1 (w := 1) (by decide)
            refine bad C2 M2 ?_ (fun f => ?_) b3
            · unfold r4_part
              rw [kind_e s3, Option.bind_some, if_neg kd]
              exact b1
            · rw [rp_slash z42 z47, s2, Option.bind_some, if_neg (fun q => kd ((num_e s3).1.mp q)), b2, Option.bind_some]
        · -- plus or minus
          have z42 := (sg_one h (w := 42) (by omega) rfl).2 k42
          have z47 := (sg_one h (w := 47) (by omega) rfl).2 k47
          have hpm : C 111 j = 43 ∨ C 111 j = 45 := by
            rcases hκ with q | q | q | q
            · exact absurd q k42
            · exact absurd q k47
            · exact .inl q
            · exact .inr q
          obtain ⟨wt', hw1, hw2, hw3, hw4⟩ : ∃ wt' : Int32, (wt' = 2 ∨ wt' = 3) ∧ (if C 111 j = 43 then 2 else 3 : Int32) = wt' ∧ (if M 119 19 = 43 then 2 else 3 : Int32) = wt' ∧ ((r10_isSign M 43 = 1 ∧ wt' = 2) ∨ (r10_isSign M 43 = 0 ∧ r10_isSign M 45 = 1 ∧ wt' = 3)) := by
            rcases hpm with q | q
            · exact ⟨2, .inl rfl, if_pos q, if_pos (sg_19 h (w := 43) (by omega) q), .inl ⟨(sg_one h (w := 43) (by omega) rfl).1 q, rfl⟩⟩
            · have n43 : ¬ C 111 j = 43 := by rw [q]; decide
              refine ⟨3, .inr rfl, if_neg n43, if_neg (by rw [sg_19 h (w := 45) (by omega) q]; decide), .inr ⟨(sg_one h (w := 43) (by omega) rfl).2 n43, (sg_one h (w := 45) (by omega) rfl).1 q, rfl⟩⟩
          -- what waited is done
          have pre : ∃ Ca Ma ua ca, ((if wt = -1 then some C1 else (r6_emit_114 C1 wt 0).bind fun z5 => some z5 : Option mI) = some Ca) ∧ ((if wt = -1 then some M else r10_emits M wt 0 : Option mI) = some Ma) ∧ CR Ca Ma ua ca ∧ ca + p ≤ j ∧ ua ≤ u + 1 ∧ u ≤ ua ∧ Ty (Ca 116) u0 ua L (false :: L) ∧ (∀ i, i < u → Ca 116 i = C 116 i) ∧ (∀ a, a ≠ 114 → a ≠ 116 → Ca a = C1 a) ∧ (∀ k, k ≠ 3 → Ca 114 k = C1 114 k) ∧ (∀ a, a ≠ 119 → a ≠ 136 → a ≠ 137 → Ma a = M a) ∧ (∀ k, k ≠ 29 → Ma 119 k = M 119 k) ∧ FrM M Ma := by
            rcases hwt with rfl | hwt
            · refine ⟨C1, M, u, c, if_pos rfl, if_pos rfl, CR_fs hR s4 ⟨fun _ _ => rfl, fun _ _ => rfl⟩, by omega, by omega, Nat.le_refl _, by rw [s4.1 116 (by decide)]; exact hT, fun i hi => by rw [s4.1 116 (by decide)], fun _ _ _ => rfl, fun _ _ => rfl, fun _ _ _ _ => rfl, fun _ _ => rfl, FrM_r _⟩
            · obtain ⟨op, o1, o2, o3, o4, o5⟩ := wt_op hwt
              have hT : Ty (C 116) u0 u L (false :: false :: L) := by
                have e : wT wt L = false :: false :: L := if_neg o5
                rw [e] at hT; exact hT
              have hc : c + 1 + p ≤ j := by
                have e : wP wt = 1 := if_neg o5
                rw [e] at hc; exact hc
              obtain ⟨Ca, Ma, a1, a2, a3, a4, a5, a6, a7, a8, a9⟩ := emit_s (CR_fs hR s4 ⟨fun _ _ => rfl, fun _ _ => rfl⟩ : CR C1 M u c) (by omega) o2 o3 (arg := 0) (by omega) o4 (y := 0) rfl o4 (y' := 0) rfl
              refine ⟨Ca, Ma, u + 1, c + 1, by rw [if_neg o5, a1, Option.bind_some], by rw [if_neg o5, a2], a3, hc, Nat.le_refl _, by omega, by rw [a4, s4.1 116 (by decide)]; exact Ty_emit hT (cTy_sum o1), fun i hi => by rw [a4, mU_ne _ _ (by omega), s4.1 116 (by decide)], a5, a6, a7, a8, a9⟩
          obtain ⟨Ca, Ma, ua, ca, p1, p2, p3, p4, p5, p6, p7, p8, p9, p10, p11, p12, p13⟩ := pre
          have hMa : Syn C Ma t n J P j := Syn_em h (fun _ _ _ => rfl) p11 p12
          obtain ⟨C1', Mb, r1, r2, r3, r4, r5⟩ := step_j hMa ne129
          have eC1 : C1' = C1 := by
            rw [s1] at r1
            exact (Option.some.inj r1).symm
          subst eC1
          have h3 : Syn Ca Mb t n J P (j + 1) := Syn_C r3 (p9 111 (by decide) (by decide)) (p9 112 (by decide) (by decide)) (p9 113 (by decide) (by decide)) (by rw [p9 109 (by decide) (by decide)]) (by rw [p9 109 (by decide) (by decide)])
          have R3 : CR Ca Mb ua ca := CR_fs p3 ⟨fun _ _ => rfl, fun _ _ => rfl⟩ r5
          have E3 : EF C Ca M Mb := EF_t (EF_t (B' := Ma) ⟨fun _ _ _ _ => rfl, fun _ _ => rfl, fun _ _ => rfl, p11, fun k _ h29 => p12 k h29, p13⟩ (EF_step r4 r5)) ⟨fun a h9 h4 h6 => p9 a h4 h6, p10, fun k _ => by rw [p9 109 (by decide) (by decide)], fun _ _ _ _ => rfl, fun _ _ _ => rfl, FrM_r _⟩
          have sa : ∀ x, r10_isSign Ma x = r10_isSign M x := fun x => by
            unfold r10_isSign
            rw [p12 18 (by decide), p12 19 (by decide)]
          have rs : ∀ g, l10_readSum_10 (g + 1) Ma = (r10_reads Ma).bind fun z1 => (r10_readProduct z1).bind fun z2 => if z2.1 = -1 then some (.inl (-1, z2.2)) else (r10_emits z2.2 wt' 0).bind fun z3 => l10_readSum_10 g z3 := fun g => rs_sign (by rw [sa, sa]; exact hw4) (by rw [p12 19 (by decide)]; exact hw3) g
          rcases unit_s h3 R3 (by omega) with ⟨C2, M2, w, q1, q2, q3, q4, q5, q6, q7⟩ | ⟨C2, M2, q1, q2, q3⟩
          · have T2 : Ty (C2 116) u0 (ua + 1) L (wT wt' L) := by
              have e : wT wt' L = false :: false :: L := if_neg (by rcases hw1 with q | q <;> rw [q] <;> decide)
              rw [e, q5]
              exact Ty_emit p7 (q6 _ (by show L.length + 1 < 31; omega))
            have pw : wP wt' = 1 := if_neg (by rcases hw1 with q | q <;> rw [q] <;> decide)
            have I := ih (by omega) (j + 1 + 1) C2 M2 (ua + 1) (ca + 1) wt' (y3 + 1) (by omega) q3 q4 (.inr hw1) (by omega) (by omega) T2
            have inl1 : ∀ e, l10_readProduct_10 FU M2 = some (.inl e) → e.1 = -1 := fun e he => by
              have fu := FU_lt (n := 500) (by omega)
              have kk : kM wt' FU FU M2 = some (.inl e) := by
                unfold kM
                rw [he, Option.bind_some]
              rcases I with ⟨_, _, _, _, _, _, b, _⟩ | ⟨_, _, _, b, _⟩
              · have b' : kM wt' FU FU M2 = _ := b FU FU (by omega) (by omega)
                rw [b'] at kk
                exact absurd (Option.some.inj kk) (by simp)
              · have b' : kM wt' FU FU M2 = _ := b FU FU (by omega) (by omega)
                rw [b'] at kk
                have := Sum.inl.inj (Option.some.inj kk)
                rw [← this]
            refine ExO_pre I (fun f hf => ?_) (fun f g hf hg => ?_) (by omega) (by omega) (fun i hi => by rw [q5, mU_ne _ _ (by omega), p8 i hi]) (EF_t E3 q7)
            · obtain ⟨f, rfl⟩ : ∃ g, f = g + 1 := ⟨f - 1, by omega⟩
              refine ⟨f, by omega, ?_⟩
              show eC (f + 1) _ _ _ _ = eC f _ _ _ _
              unfold eC
              rw [cl, if_neg k47, if_neg k42, p1, Option.bind_some, ite_some, hw2, Option.bind_some, q1, Option.bind_some, Option.bind_some]
            · obtain ⟨f, rfl⟩ : ∃ g, f = g + 1 := ⟨f - 1, by omega⟩
              obtain ⟨g, rfl⟩ : ∃ x, g = x + 1 := ⟨g - 1, by omega⟩
              have fu := FU_lt (n := 500) (by omega)
              refine ⟨FU, g, by omega, by omega, ?_⟩
              show kM _ (f + 1) (g + 1) _ = kM _ FU g _
              have nw : ¬ wt' = -1 := by rcases hw1 with q | q <;> rw [q] <;> decide
              unfold kM
              rw [rp_end z42 z47, Option.bind_some]
              dsimp only
              rw [p2, Option.bind_some, rs g, r2, Option.bind_some]
              unfold r10_readProduct
              rw [q2, Option.bind_some]
              dsimp only
              rw [if_neg (show ¬ (0 : Int32) = -1 by decide)]
              cases hz : l10_readProduct_10 FU M2 with
              | none => rfl
              | some z =>
                cases z with
                | inl e =>
                  have e1 := inl1 e hz
                  rw [Option.bind_some, Option.bind_some, Option.bind_some]
                  dsimp only
                  rw [if_pos e1, ← e1]
                | inr m =>
                  rw [Option.bind_some, Option.bind_some, Option.bind_some]
                  dsimp only
                  rw [if_neg (show ¬ (0 : Int32) = -1 by decide), if_neg nw]
          · obtain ⟨C4, e3, e4⟩ := eC_0u (FltL_t q3 (EF_C E3) E3.2.2.2.2.2) wt' (y3 + 1)
            refine .inr ⟨C4, M2, fun f hf => ?_, fun f g hf hg => ?_, e4⟩
            · obtain ⟨f, rfl⟩ : ∃ g, f = g + 2 := ⟨f - 2, by omega⟩
              show eC (f + 1 + 1) _ _ _ _ = _
              rw [← e3 f]
              unfold eC
              rw [cl, if_neg k47, if_neg k42, p1, Option.bind_some, ite_some, hw2, Option.bind_some, q1, Option.bind_some, Option.bind_some]
            · obtain ⟨f, rfl⟩ : ∃ g, f = g + 1 := ⟨f - 1, by omega⟩
              obtain ⟨g, rfl⟩ : ∃ x, g = x + 1 := ⟨g - 1, by omega⟩
              show kM _ (f + 1) (g + 1) _ = _
              unfold kM
              rw [rp_end z42 z47, Option.bind_some]
              dsimp only
              rw [p2, Option.bind_some, rs g, r2, Option.bind_some]
              unfold r10_readProduct
              rw [q2, Option.bind_some]
              dsimp only
              rw [if_pos rfl, Option.bind_some]
              dsimp only
              rw [if_pos rfl]
    · exact expr_end (k + 1) h hR hwt hc hT hκ
theorem cTyp_add (code : Nat → Int32) (a i : Nat) (L : List Bool) : ∀ b, cTyp code (a + b) i L = (cTyp code a i L).bind fun T => cTyp code b (i + a) T
  | 0 => by
    rw [Nat.add_zero]
    cases cTyp code a i L <;> rfl
  | b + 1 => by
    rw [← Nat.add_assoc, cTyp_snoc, cTyp_add code a i L b]
    cases cTyp code a i L with
    | none => rfl
    | some T =>
      rw [Option.bind_some, Option.bind_some, cTyp_snoc, Nat.add_assoc]
theorem Ty_t {f f' : Nat → Int32} {u0 u u' : Nat} {L T T' : List Bool} (h : Ty f u0 u L T) (h' : Ty f' u u' T T') (he : ∀ i, i < u → f' i = f i) : Ty f' u0 u' L T' := by
  have h1 := Ty_ext h he
  refine ⟨by have := h.1; have := h'.1; omega, ?_⟩
  rw [show u' - u0 = (u - u0) + (u' - u) by have := h.1; have := h'.1; omega, cTyp_add, h1.2, Option.bind_some, show u0 + (u - u0) = u by have := h.1; omega, h'.2]
/-- an expression, in step -/
theorem expr_s {C M : mI} {t : Nat → Nat} {n J : Nat} {P : Nat → Nat} {j u c p u0 : Nat} {L0 L : List Bool} (hL : L.length ≤ 28) (h : Syn C M t n J P j) (hR : CR C M u c) (hc : c + p ≤ j) (hT : Ty (C 116) u0 u L0 L) : (∃ C' M' j' u' c', r4_expression C = some (1, C') ∧ r10_readSum M = some (0, M') ∧ Syn C' M' t n J P j' ∧ CR C' M' u' c' ∧ c' + p ≤ j' ∧ j < j' ∧ Ty (C' 116) u0 u' L0 (false :: L) ∧ u ≤ u' ∧ (∀ i, i < u → C' 116 i = C 116 i) ∧ EF C C' M M') ∨ (∃ C' M', r4_expression C = some (0, C') ∧ r10_readSum M = some (-1, M') ∧ FltL C' C M' M) := by
  have fu := FU_lt (n := 500) (by omega)
  have jJ := h.2.2.1
  have J4 := h.1.1
  rcases unit_s h hR (by omega) with ⟨C1, M1, w, q1, q2, q3, q4, q5, q6, q7⟩ | ⟨C1, M1, q1, q2, q3⟩
  · have T1 : Ty (C1 116) u (u + 1) L (wT (-1) L) := by
      rw [q5]
      exact Ty_emit (Ty_0 _ _ _) (q6 L (by omega))
    have I := expr_go (u0 := u) (p := p) hL 400 (Nat.le_refl _) (j + 1) C1 M1 (u + 1) (c + 1) (-1) 0 (by omega) q3 q4 (.inl rfl) (by show c + 1 + 0 + p ≤ j + 1; omega) (by omega) T1
    have cc : r4_expression C = eC FU (-1) 1 0 C1 := by
      unfold r4_expression eC
      rw [q1, Option.bind_some]
      rfl
    rcases I with ⟨C', M', j', u', c', a1, a2, a3, a4, a5, a6, a7, a8, a9, a10⟩ | ⟨C', M', a1, a2, a3⟩
    · have b1 : eC FU (-1) 1 0 C1 = _ := a1 FU (by omega)
      have b2 : kM (-1) FU FU M1 = _ := a2 FU FU (by omega) (by omega)
      refine .inl ⟨C', M', j', u', c', by rw [cc, b1], ?_, a3, a4, a5, by omega, Ty_t hT a7 (fun i hi => by rw [a9 i (by omega), q5, mU_ne _ _ (by omega)]), by omega, fun i hi => by rw [a9 i (by omega), q5, mU_ne _ _ (by omega)], EF_t q7 a10⟩
      unfold kM at b2
      unfold r10_readSum r10_readProduct
      rw [q2, Option.bind_some]
      dsimp only
      rw [if_neg (show ¬ (0 : Int32) = -1 by decide)]
      cases hz : l10_readProduct_10 FU M1 with
      | none => rw [hz] at b2; exact absurd b2 (by simp)
      | some z =>
        rw [hz, Option.bind_some] at b2
        cases z with
        | inl e => exact absurd b2 (by simp)
        | inr m =>
          dsimp only at b2
          rw [if_pos rfl, Option.bind_some] at b2
          rw [Option.bind_some, Option.bind_some]
          dsimp only
          rw [if_neg (show ¬ (0 : Int32) = -1 by decide), b2, Option.bind_some]
    · have b1 : eC FU (-1) 1 0 C1 = _ := a1 FU (by omega)
      have b2 : kM (-1) FU FU M1 = _ := a2 FU FU (by omega) (by omega)
      refine .inr ⟨C', M', by rw [cc, b1], ?_, FltL_t a3 (EF_C q7) q7.2.2.2.2.2⟩
      unfold kM at b2
      unfold r10_readSum r10_readProduct
      rw [q2, Option.bind_some]
      dsimp only
      rw [if_neg (show ¬ (0 : Int32) = -1 by decide)]
      cases hz : l10_readProduct_10 FU M1 with
      | none => rw [hz] at b2; exact absurd b2 (by simp)
      | some z =>
        rw [hz, Option.bind_some] at b2
        cases z with
        | inl e =>
          dsimp only at b2
          have e1 := Sum.inl.inj (Option.some.inj b2)
          rw [Option.bind_some, Option.bind_some, e1, if_pos rfl]
        | inr m =>
          dsimp only at b2
          rw [if_pos rfl, Option.bind_some] at b2
          rw [Option.bind_some, Option.bind_some]
          dsimp only
          rw [if_neg (show ¬ (0 : Int32) = -1 by decide), b2, Option.bind_some]
  · obtain ⟨C4, e3, e4⟩ := eC_0u q3 (-1) 0
    obtain ⟨f, ef⟩ : ∃ f, FU = f + 1 := ⟨FU - 1, by omega⟩
    refine .inr ⟨C4, M1, ?_, ?_, e4⟩
    · unfold r4_expression
      rw [q1, Option.bind_some]
      have := e3 f
      rw [← ef] at this
      exact this
    · unfold r10_readSum r10_readProduct
      rw [q2, Option.bind_some]
      dsimp only
      rw [if_pos rfl, Option.bind_some, if_pos rfl]

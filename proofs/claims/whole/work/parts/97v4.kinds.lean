/-! TEXT: the four kinds of lines -/
def Fr0 (C0 M0 C M : mI) : Prop := FrC C0 C ∧ FrM M0 M ∧ C 109 11 = 0 ∧ C 109 12 = -1
theorem Fr0_2 {C0 M0 C M : mI} (h : Fr0 C0 M0 C M) (x : Int32) : Fr0 C0 M0 (mW C 114 2 x) M := ⟨FrC_t h.1 (FrC_w (by omega)), h.2.1, by rw [mW_ne _ _ _ (by decide)]; exact h.2.2.1, by rw [mW_ne _ _ _ (by decide)]; exact h.2.2.2⟩
theorem Fr0_s {C0 M0 C M C' M' : mI} (h : Fr0 C0 M0 C M) (hC : FrC C C') (hM : FrM M M') (hk : K2 C C') : Fr0 C0 M0 C' M' := ⟨FrC_t h.1 hC, FrM_t h.2.1 hM, hk.1.trans h.2.2.1, hk.2.trans h.2.2.2⟩
/-! care -/
def careAt (c g : Nat → Int32) (l : Nat) : Prop := c (9 * l) = g (3 * l) ∧ ((c (9 * l + 1) = 23 ∧ g (3 * l + 1) = 1) ∨ (c (9 * l + 2) = g (3 * l + 2) ∧ ((c (9 * l + 1) = 22 ∧ g (3 * l + 1) = 0 ∧ bd (g (3 * l + 2)) 7) ∨ (c (9 * l + 1) = 24 ∧ g (3 * l + 1) = 2) ∨ (c (9 * l + 1) = 15 ∧ g (3 * l + 1) = 3) ∨ (c (9 * l + 1) = 25 ∧ g (3 * l + 1) = 4))))
theorem careAt_to {c c' g g' : Nat → Int32} {l : Nat} (h : careAt c g l) (hc : ∀ i, i < 9 → c' (9 * l + i) = c (9 * l + i)) (hg : ∀ i, i < 3 → g' (3 * l + i) = g (3 * l + i)) : careAt c' g' l := by
  unfold careAt at *
  have c0 := hc 0 (by decide)
  have g0 := hg 0 (by decide)
  rw [Nat.add_zero] at c0 g0
  rw [c0, g0, hc 1 (by decide), hc 2 (by decide), hg 1 (by decide), hg 2 (by decide)]
  exact h
def PiK (C0 M0 C M : mI) (l : Nat) (_ : Nat) : Prop := Fr0 C0 M0 C M ∧ C 114 3 = 0 ∧ ∀ i, i < l → careAt (C 115) (fun k => M 140 (48 + k)) i
theorem care_lines {C M : mI} {t : Nat → Nat} {n J : Nat} {P : Nat → Nat} {j : Nat} (h : Syn C M t n J P j) (h2 : C 114 2 = 0) (h3 : C 114 3 = 0) (h11 : C 109 11 = 0) (h12 : C 109 12 = -1) : (∃ C' M' n', n' ≤ 16 ∧ l4_readScript_55 2 FU 0 C = some C' ∧ r10_readCare M = some (nI n', M') ∧ C' 114 2 = nI n' ∧ PiK C M C' M' n' 0) ∨ (∃ C' M', l4_readScript_55 2 FU 0 C = some C' ∧ r10_readCare M = some (-1, M') ∧ Flt C' M' ∧ FrC C C' ∧ FrM M M') := by
  have fu := FU_lt (n := 500) (by omega)
  have L := lines_go (t := t) (n := n) (J := J) (P := P) (k := 2) (lineC := r4_careLine) (LM := l10_readCare_2) (mb := fun M => r10_isWord M 19) (lineM := fun l M => r10_readDeed M (nI (48 + 3 * l))) (Pi := PiK C M) (C0 := C) (M0 := M) (fun _ => rfl) (fun f l M hl => by
      have e : (48 : Int32) + 3 * nI l = nI (48 + 3 * l) := by rw [show (3 : Int32) = nI 3 from rfl, nI_mul, nI_addl (show (48 : Int32) = nI 48 from rfl)]
      rw [l10_readCare_2, nI_1, e]) (fun C M j h => by
      show r10_isWord M 19 = _
      unfold rgt
      rw [if_neg (by decide), if_neg (by decide)]
      exact word_e h (w := 19) (by decide)) (fun C' M' l j hp => ⟨hp.1.1, hp.1.2.1, hp.1.2.2.1⟩) (fun C' M' l j x hp => ⟨Fr0_2 hp.1 x, by rw [mW_off _ _ (by decide)]; exact hp.2.1, by rw [mW_ne _ _ _ (by decide)]; exact hp.2.2⟩) (fun C1 M1 j1 l hl h1 e2 hp hr => by
      rcases care_s h1 hl e2 with ⟨C', M', j', v, a1, a2, a3, a4, r1, r2, r3, r4, r5, r6, r7, r8⟩ | ⟨C', M', a1, a2, a3, a4, a5⟩
      · refine .inl ⟨C', M', j', v, a1, a2, a3, a4, Fr0_s hp.1 r1 r2 (ok_care 1 C' a1 one_n0), by rw [r3]; exact hp.2.1, fun i hi => ?_⟩
        by_cases e : i = l
        · subst e
          exact ⟨r7, r8⟩
        · refine careAt_to (hp.2.2 i (by omega)) (fun x hx => r5 _ (by omega)) (fun x hx => ?_)
          exact r6 _ (by omega)
      · exact .inr ⟨C', M', a1, a2, a3, a4, a5⟩) 16 0 rfl C M j h h2 ⟨⟨FrC_r _, FrM_r _, h11, h12⟩, h3, fun i hi => absurd hi (Nat.not_lt_zero _)⟩
  rcases L with ⟨C', M', n', j', q0, q1, q2, q3, q4⟩ | ⟨C', M', q1, q2, q3, q4, q5⟩
  · exact .inl ⟨C', M', n', q0, q1 FU (by omega), q2 FU (by omega), q3, q4⟩
  · exact .inr ⟨C', M', q1 FU (by omega), q2 FU (by omega), q3, q4, q5⟩
/-! the programme -/
def progAt (c g : Nat → Int32) (np nq : Int32) (l : Nat) : Prop := c (9 * l) = g (9 * l) ∧ (∃ p, p < 6 ∧ nI p < nq ∧ c (9 * l + 1) = nI p ∧ g (9 * l + 1) = nI p) ∧ ∃ q, 1 ≤ q ∧ q ≤ 6 ∧ c (9 * l + 2) = nI q ∧ g (9 * l + 2) = nI q ∧ ∀ j, j < q → ∃ p, p < 12 ∧ nI p < np ∧ c (9 * l + 3 + j) = nI p ∧ g (9 * l + 3 + j) = nI p
theorem progAt_to {c c' g g' : Nat → Int32} {np nq : Int32} {l : Nat} (h : progAt c g np nq l) (hc : ∀ i, i < 9 → c' (9 * l + i) = c (9 * l + i)) (hg : ∀ i, i < 9 → g' (9 * l + i) = g (9 * l + i)) : progAt c' g' np nq l := by
  obtain ⟨a, ⟨p, p1, p2, p3, p4⟩, q, q1, q2, q3, q4, q5⟩ := h
  have c0 := hc 0 (by decide)
  have g0 := hg 0 (by decide)
  rw [Nat.add_zero] at c0 g0
  refine ⟨by rw [c0, g0, a], ⟨p, p1, p2, by rw [hc 1 (by decide), p3], by rw [hg 1 (by decide), p4]⟩, q, q1, q2, by rw [hc 2 (by decide), q3], by rw [hg 2 (by decide), q4], fun j hj => ?_⟩
  obtain ⟨x, x1, x2, x3, x4⟩ := q5 j hj
  have e : 9 * l + 3 + j = 9 * l + (3 + j) := by omega
  rw [e] at x3 x4 ⊢
  exact ⟨x, x1, x2, by rw [hc (3 + j) (by omega), x3], by rw [hg (3 + j) (by omega), x4]⟩
def PiP (np nq : Int32) (C0 M0 C M : mI) (l : Nat) (_ : Nat) : Prop := Fr0 C0 M0 C M ∧ C 114 3 = 0 ∧ ∀ i, i < l → progAt (C 115) (fun k => M 139 (144 + k)) np nq i
theorem prog_lines {C M : mI} {t : Nat → Nat} {n J : Nat} {P : Nat → Nat} {j np nq : Nat} (hnp : np ≤ 12) (hnq : nq ≤ 6) (e8 : C 109 8 = nI np) (e6 : M 119 6 = nI np) (e9 : C 109 9 = nI nq) (e7 : M 119 7 = nI nq) (h : Syn C M t n J P j) (h2 : C 114 2 = 0) (h3 : C 114 3 = 0) (h11 : C 109 11 = 0) (h12 : C 109 12 = -1) : (∃ C' M' n', n' ≤ 16 ∧ l4_readScript_55 1 FU 0 C = some C' ∧ r10_readProgramme M = some (nI n', M') ∧ C' 114 2 = nI n' ∧ PiP (nI np) (nI nq) C M C' M' n' 0) ∨ (∃ C' M', l4_readScript_55 1 FU 0 C = some C' ∧ r10_readProgramme M = some (-1, M') ∧ Flt C' M' ∧ FrC C C' ∧ FrM M M') := by
  have fu := FU_lt (n := 500) (by omega)
  have L := lines_go (t := t) (n := n) (J := J) (P := P) (k := 1) (lineC := r4_programmeLine) (LM := l10_readProgramme_2) (mb := fun M => r10_isWord M 19) (lineM := fun l M => r10_readEvening M (nI (144 + 9 * l))) (Pi := PiP (nI np) (nI nq) C M) (C0 := C) (M0 := M) (fun _ => rfl) (fun f l M hl => by
      have e : (144 : Int32) + 9 * nI l = nI (144 + 9 * l) := by rw [show (9 : Int32) = nI 9 from rfl, nI_mul, nI_addl (show (144 : Int32) = nI 144 from rfl)]
      rw [l10_readProgramme_2, nI_1, e]) (fun C M j h => by
      show r10_isWord M 19 = _
      unfold rgt
      rw [if_neg (by decide), if_neg (by decide)]
      exact word_e h (w := 19) (by decide)) (fun C' M' l j hp => ⟨hp.1.1, hp.1.2.1, hp.1.2.2.1⟩) (fun C' M' l j x hp => ⟨Fr0_2 hp.1 x, by rw [mW_off _ _ (by decide)]; exact hp.2.1, by rw [mW_ne _ _ _ (by decide)]; exact hp.2.2⟩) (fun C1 M1 j1 l hl h1 e2 hp hr => by
      have f1 := hp.1.1
      have f2 := hp.1.2.1
      rcases prog_s h1 hl e2 hnp hnq (by rw [f1.2 8 (by decide) (by decide) (by decide) (by decide), e8]) (by rw [f2.2 6 (by omega) (by omega), e6]) (by rw [f1.2 9 (by decide) (by decide) (by decide) (by decide), e9]) (by rw [f2.2 7 (by omega) (by omega), e7]) with ⟨C', M', j', v, a1, a2, a3, a4, r1, r2, r3, r4, r5, r6, r7, ⟨p, p1, p2, p3⟩, q, q1, q2, q3, q4, q5⟩ | ⟨C', M', a1, a2, a3, a4, a5⟩
      · refine .inl ⟨C', M', j', v, a1, a2, a3, a4, Fr0_s hp.1 r1 r2 (ok_prog 1 C' a1 one_n0), by rw [r3]; exact hp.2.1, fun i hi => ?_⟩
        by_cases e : i = l
        · subst e
          refine ⟨r7, ⟨p, by omega, nI_lt p1 (by omega), p2, p3⟩, q, q1, q2, q3, q4, fun x hx => ?_⟩
          obtain ⟨y, y1, y2, y3⟩ := q5 x hx
          refine ⟨y, by omega, nI_lt y1 (by omega), y2, ?_⟩
          show M' 139 (144 + (9 * i + 3 + x)) = _
          rw [show 144 + (9 * i + 3 + x) = 144 + 9 * i + 3 + x by omega, y3]
        · refine progAt_to (hp.2.2 i (by omega)) (fun x hx => r5 _ (by omega)) (fun x hx => ?_)
          exact r6 _ (by omega)
      · exact .inr ⟨C', M', a1, a2, a3, a4, a5⟩) 16 0 rfl C M j h h2 ⟨⟨FrC_r _, FrM_r _, h11, h12⟩, h3, fun i hi => absurd hi (Nat.not_lt_zero _)⟩
  rcases L with ⟨C', M', n', j', q0, q1, q2, q3, q4⟩ | ⟨C', M', q1, q2, q3, q4, q5⟩
  · exact .inl ⟨C', M', n', q0, q1 FU (by omega), q2 FU (by omega), q3, q4⟩
  · exact .inr ⟨C', M', q1 FU (by omega), q2 FU (by omega), q3, q4, q5⟩
/-! likeness -/
theorem likeSet_pre {c c' : Nat → Int32} (p : Int32) : ∀ l, (∀ i, i < 9 * l → c' i = c i) → likeSet c' p l = likeSet c p l
  | 0, _ => rfl
  | l + 1, h => by
    unfold likeSet
    rw [likeSet_pre p l (fun i hi => h i (by omega)), h (9 * l) (by omega), h (9 * l + 1) (by omega)]
def likeAt (c : Nat → Int32) (np : Int32) (l : Nat) : Prop := ∃ a b, a < 12 ∧ b < 12 ∧ a ≠ b ∧ nI a < np ∧ nI b < np ∧ c (9 * l) = nI a ∧ c (9 * l + 1) = nI b
def PiL (np : Int32) (C0 M0 C M : mI) (l : Nat) (_ : Nat) : Prop := Fr0 C0 M0 C M ∧ C 114 3 = 0 ∧ (∀ i, i < l → likeAt (C 115) np i) ∧ ∀ p, p < 12 → M 141 (12 + p) = likeSet (C 115) (nI p) l
theorem like_lines {C M : mI} {t : Nat → Nat} {n J : Nat} {P : Nat → Nat} {j np : Nat} (hnp : np ≤ 12) (e8 : C 109 8 = nI np) (e6 : M 119 6 = nI np) (z141 : ∀ p, p < 12 → M 141 (12 + p) = 0) (h : Syn C M t n J P j) (h2 : C 114 2 = 0) (h3 : C 114 3 = 0) (h11 : C 109 11 = 0) (h12 : C 109 12 = -1) : (∃ C' M' n', n' ≤ 16 ∧ l4_readScript_55 3 FU 0 C = some C' ∧ (l10_readLikeness_26 FU 0 M).bind tlM = some (nI n', M') ∧ C' 114 2 = nI n' ∧ PiL (nI np) C M C' M' n' 0) ∨ (∃ C' M', l4_readScript_55 3 FU 0 C = some C' ∧ (l10_readLikeness_26 FU 0 M).bind tlM = some (-1, M') ∧ Flt C' M' ∧ FrC C C' ∧ FrM M M') := by
  have fu := FU_lt (n := 500) (by omega)
  have L := lines_go (t := t) (n := n) (J := J) (P := P) (k := 3) (lineC := r4_likenessLine) (LM := l10_readLikeness_26) (mb := fun M => r10_isWord M 21) (lineM := fun _ M => r10_readLike M) (Pi := PiL (nI np) C M) (C0 := C) (M0 := M) (fun _ => rfl) (fun f l M hl => by
      rw [l10_readLikeness_26, nI_1]) (fun C M j h => by
      show r10_isWord M 21 = _
      unfold rgt
      rw [if_neg (by decide), if_pos rfl]
      exact word_e h (w := 21) (by decide)) (fun C' M' l j hp => ⟨hp.1.1, hp.1.2.1, hp.1.2.2.1⟩) (fun C' M' l j x hp => ⟨Fr0_2 hp.1 x, by rw [mW_off _ _ (by decide)]; exact hp.2.1, by rw [mW_ne _ _ _ (by decide)]; exact hp.2.2.1, by rw [mW_ne _ _ _ (by decide)]; exact hp.2.2.2⟩) (fun C1 M1 j1 l hl h1 e2 hp hr => by
      have f1 := hp.1.1
      have f2 := hp.1.2.1
      rcases like_s h1 hl e2 hnp (by rw [f1.2 8 (by decide) (by decide) (by decide) (by decide), e8]) (by rw [f2.2 6 (by omega) (by omega), e6]) with ⟨C', M', j', v, a1, a2, a3, a4, r1, r2, r3, r4, r5, a, b, b1, b2, b3, b4, b5, b6⟩ | ⟨C', M', a1, a2, a3, a4, a5⟩
      · refine .inl ⟨C', M', j', v, a1, a2, a3, a4, Fr0_s hp.1 r1 r2 (ok_like 1 C' a1 one_n0), by rw [r3]; exact hp.2.1, fun i hi => ?_, fun p hp' => ?_⟩
        · by_cases e : i = l
          · subst e
            exact ⟨a, b, by omega, by omega, b3, nI_lt b1 (by omega), nI_lt b2 (by omega), b4, b5⟩
          · obtain ⟨x, y, y1, y2, y3, y4, y5, y6, y7⟩ := hp.2.2.1 i (by omega)
            exact ⟨x, y, y1, y2, y3, y4, y5, by rw [r5 _ (by omega), y6], by rw [r5 _ (by omega), y7]⟩
        · have e : likeSet (C' 115) (nI p) (l + 1) = likeSet (C' 115) (nI p) l ||| (if C' 115 (9 * l) = nI p then (1 : Int32) <<< (C' 115 (9 * l + 1) &&& 31) else if C' 115 (9 * l + 1) = nI p then (1 : Int32) <<< (C' 115 (9 * l) &&& 31) else 0) := rfl
          rw [e, b6 p hp', hp.2.2.2 p hp', likeSet_pre (c := C1 115) (nI p) l (fun i hi => r5 i (by omega)), b4, b5]
          congr 1
          by_cases z1 : p = a
          · rw [if_pos z1, if_pos (by rw [z1])]
          · rw [if_neg z1, if_neg (fun q => z1 ((nI_eq (by omega) (by omega)).mp q).symm)]
            by_cases z2 : p = b
            · rw [if_pos z2, if_pos (by rw [z2])]
            · rw [if_neg z2, if_neg (fun q => z2 ((nI_eq (by omega) (by omega)).mp q).symm)]
      · exact .inr ⟨C', M', a1, a2, a3, a4, a5⟩) 16 0 rfl C M j h h2 ⟨⟨FrC_r _, FrM_r _, h11, h12⟩, h3, fun i hi => absurd hi (Nat.not_lt_zero _), fun p hp => z141 p hp⟩
  rcases L with ⟨C', M', n', j', q0, q1, q2, q3, q4⟩ | ⟨C', M', q1, q2, q3, q4, q5⟩
  · exact .inl ⟨C', M', n', q0, q1 FU (by omega), q2 FU (by omega), q3, q4⟩
  · exact .inr ⟨C', M', q1 FU (by omega), q2 FU (by omega), q3, q4, q5⟩
/-! the law -/
def PiW (C0 M0 C M : mI) (l j : Nat) : Prop := Fr0 C0 M0 C M ∧ C 109 7 = 0 ∧ M 119 30 = 0 ∧ ∃ u c, CR C M u c ∧ c ≤ j ∧ ∀ i, i < l → lawAt (C 115) (C 116) u (fun k => M 132 (32 + k)) (fun k => M 133 (32 + k)) (fun k => M 134 (32 + k)) (fun k => M 135 (32 + k)) i
theorem law_lines {C M : mI} {t : Nat → Nat} {n J : Nat} {P : Nat → Nat} {j : Nat} (h7 : C 109 7 = 0) (h30 : M 119 30 = 0) (h29 : M 119 29 = 0) (h : Syn C M t n J P j) (h2 : C 114 2 = 0) (h3 : C 114 3 = 0) (h11 : C 109 11 = 0) (h12 : C 109 12 = -1) : (∃ C' M' n' j', n' ≤ 16 ∧ l4_readScript_55 0 FU 0 C = some C' ∧ r10_readLaw M = some (nI n', M') ∧ C' 114 2 = nI n' ∧ PiW C M C' M' n' j') ∨ (∃ C' M', l4_readScript_55 0 FU 0 C = some C' ∧ r10_readLaw M = some (-1, M') ∧ Flt C' M' ∧ FrC C C' ∧ FrM M M') := by
  have fu := FU_lt (n := 500) (by omega)
  have L := lines_go (t := t) (n := n) (J := J) (P := P) (k := 0) (lineC := r4_lawLine) (LM := l10_readLaw_2) (mb := r10_isLineWord) (lineM := fun l M => lawM (nI l) M) (Pi := PiW C M) (C0 := C) (M0 := M) (fun _ => rfl) (fun f l M hl => by
      rw [lawM_e, nI_1]) (fun C M j h => (lw_e h).1) (fun C' M' l j hp => ⟨hp.1.1, hp.1.2.1, hp.1.2.2.1⟩) (fun C' M' l j x hp => ⟨Fr0_2 hp.1 x, by rw [mW_ne _ _ _ (by decide)]; exact hp.2.1, hp.2.2.1, by
      obtain ⟨u, c, hR, hc, hl⟩ := hp.2.2.2
      refine ⟨u, c, ?_, hc, by rw [mW_ne _ _ _ (by decide), mW_ne _ _ _ (by decide)]; exact hl⟩
      unfold CR at *
      rw [mW_off _ _ (by decide), mW_ne _ _ _ (by decide)]
      exact hR⟩) (fun C1 M1 j1 l hl h1 e2 hp hr => by
      obtain ⟨p0, p1, p2, u, c, hR, hc, hlines⟩ := hp
      rcases law_s h1 hl e2 hR hc p1 p2 hr with ⟨C', M', j', u', c', a1, a2, a3, a4, a5, a6, a7, a8, a9, a10, a11⟩ | ⟨C', M', a1, a2, a3, a4, a5⟩
      · refine .inl ⟨C', M', j', 0, a1, a2, by decide, a3, Fr0_s p0 (Ru_C a11) a11.2.2.2.2.2 ⟨a11.2.2.1 11 (by decide) (by decide), a11.2.2.1 12 (by decide) (by decide)⟩, a6, a7, u', c', a4, a5, fun i hi => ?_⟩
        by_cases e : i = l
        · subst e
          exact a10
        · exact lawAt_to (hlines i (by omega)) a8 (fun x hx => a11.2.2.2.1 _ (by omega)) a9 (a11.2.2.2.2.1 132 _ (by decide) (by decide) (by omega)) (a11.2.2.2.2.1 133 _ (by decide) (by decide) (by omega)) (a11.2.2.2.2.1 134 _ (by decide) (by decide) (by omega)) (a11.2.2.2.2.1 135 _ (by decide) (by decide) (by omega))
      · exact .inr ⟨C', M', a1, a2, a3, a4, a5⟩) 16 0 rfl C M j h h2 ⟨⟨FrC_r _, FrM_r _, h11, h12⟩, h7, h30, 0, 0, ⟨h3, h29, rfl, fun i hi => absurd hi (Nat.not_lt_zero _), by decide⟩, Nat.zero_le _, fun i hi => absurd hi (Nat.not_lt_zero _)⟩
  rcases L with ⟨C', M', n', j', q0, q1, q2, q3, q4⟩ | ⟨C', M', q1, q2, q3, q4, q5⟩
  · exact .inl ⟨C', M', n', j', q0, q1 FU (by omega), q2 FU (by omega), q3, q4⟩
  · exact .inr ⟨C', M', q1 FU (by omega), q2 FU (by omega), q3, q4, q5⟩

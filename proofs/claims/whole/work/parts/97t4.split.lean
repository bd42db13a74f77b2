/-! TEXT: the class splits the tape -/
def TkC (C : mI) (t : Nat → Nat) (n J : Nat) (P : Nat → Nat) : Prop := P 0 = 0 ∧ ∀ j, j < J → ∃ s, Tok t n (P j) (C 111 j) (C 112 j) s (P (j + 1)) ∧ C 113 j = nI s ∧ P j ≤ n ∧ j ≤ P j
theorem addTok {C : mI} {j : Nat} (hj : j ≤ 400) (e5 : C 109 5 = nI j) (κ v x : Int32) : r4_addToken C κ v x = some (mW (mW (mW (mW C 111 j κ) 112 j v) 113 j x) 109 5 (nI (j + 1))) := by
  unfold r4_addToken
  rw [e5, if_neg (show ¬ (401 : Int32) ≤ nI j from nI_ge (b := 401) (by omega) (by decide)), mSto_n (by omega) (by decide), Option.bind_some, mW_ne _ _ _ (show 109 ≠ 111 by decide), e5, mSto_n (by omega) (by decide), Option.bind_some, mW_ne _ _ _ (show 109 ≠ 112 by decide), mW_ne _ _ _ (show 109 ≠ 111 by decide), e5, mSto_n (by omega) (by decide), Option.bind_some, mW_ne _ _ _ (show 109 ≠ 113 by decide), mW_ne _ _ _ (show 109 ≠ 112 by decide), mW_ne _ _ _ (show 109 ≠ 111 by decide), e5, nI_1, Option.bind_some]
theorem TkC_add {C : mI} {t : Nat → Nat} {n j : Nat} {P : Nat → Nat} (h : TkC C t n j P) {κ v : Int32} {s e : Nat} (hT : Tok t n (P j) κ v s e) (hp : P j ≤ n) (hj : j ≤ P j) : TkC (mW (mW (mW (mW C 111 j κ) 112 j v) 113 j (nI s)) 109 5 (nI (j + 1))) t n (j + 1) (fun i => if i = j + 1 then e else P i) := by
  have r1 : ∀ i, (mW (mW (mW (mW C 111 j κ) 112 j v) 113 j (nI s)) 109 5 (nI (j + 1))) 111 i = if i = j then κ else C 111 i := fun i => by
    rw [mW_ne _ _ _ (by decide), mW_ne _ _ _ (by decide), mW_ne _ _ _ (by decide), mW_rd, if_pos rfl]
  have r2 : ∀ i, (mW (mW (mW (mW C 111 j κ) 112 j v) 113 j (nI s)) 109 5 (nI (j + 1))) 112 i = if i = j then v else C 112 i := fun i => by
    rw [mW_ne _ _ _ (by decide), mW_ne _ _ _ (by decide), mW_rd, if_pos rfl, mW_ne _ _ _ (by decide)]
  have r3 : ∀ i, (mW (mW (mW (mW C 111 j κ) 112 j v) 113 j (nI s)) 109 5 (nI (j + 1))) 113 i = if i = j then nI s else C 113 i := fun i => by
    rw [mW_ne _ _ _ (by decide), mW_rd, if_pos rfl, mW_ne _ _ _ (by decide), mW_ne _ _ _ (by decide)]
  refine ⟨by show (if 0 = j + 1 then e else P 0) = 0; rw [if_neg (by omega), h.1], fun i hi => ?_⟩
  rw [r1, r2, r3]
  show ∃ s', Tok t n (if i = j + 1 then e else P i) _ _ s' (if i + 1 = j + 1 then e else P (i + 1)) ∧ _ ∧ (if i = j + 1 then e else P i) ≤ n ∧ i ≤ (if i = j + 1 then e else P i)
  rw [if_neg (show ¬ i = j + 1 by omega)]
  by_cases z : i = j
  · subst z
    rw [if_pos rfl, if_pos rfl, if_pos rfl, if_pos rfl]
    exact ⟨s, hT, rfl, hp, hj⟩
  · rw [if_neg z, if_neg z, if_neg z, if_neg (show ¬ i + 1 = j + 1 by omega)]
    exact h.2 i (by omega)
theorem blk_no {b : Nat} : (Ltr b = true → Blk b = false) ∧ (Dig b = true → Blk b = false) := by
  unfold Ltr Dig Blk
  constructor
  · intro h
    simp only [Bool.or_eq_true, Bool.and_eq_true, decide_eq_true_eq] at h
    simp
    omega
  · intro h
    simp only [Bool.and_eq_true, decide_eq_true_eq] at h
    simp
    omega
/-- the rest of the tape -/
theorem split_go {C0 : mI} {t : Nat → Nat} {n : Nat} (hn : n ≤ 400) (ht : ∀ i, i < 400 → t i ≤ 255 ∧ C0 110 i = nI (t i)) (e1 : C0 109 1 = nI n) : ∀ k fr j C P, n - fr ≤ k → fr ≤ n → TkC C t n j P → C 109 5 = nI j → P j ≤ fr → j ≤ P j → (∀ q, P j ≤ q → q < fr → Blk (t q) = true) → (∀ i, i < j → ¬ C 111 i = 129) → (∀ a, a ≠ 109 → a ≠ 111 → a ≠ 112 → a ≠ 113 → C a = C0 a) → (∀ i, i ≠ 5 → C 109 i = C0 109 i) → ∃ C' J P', (∀ f, k < f → l4_splitTape_17 f (nI fr) C = some C') ∧ TkC C' t n J P' ∧ C' 109 5 = nI J ∧ J ≤ P' J ∧ Stw (fun i => Blk (t i)) n (P' J) n ∧ P' J ≤ n ∧ (∀ i, i < J → ¬ C' 111 i = 129) ∧ (∀ a, a ≠ 109 → a ≠ 111 → a ≠ 112 → a ≠ 113 → C' a = C0 a) ∧ (∀ i, i ≠ 5 → C' 109 i = C0 109 i) := by
  intro k
  induction k with
  | zero =>
    intro fr j C P hk hfr hT e5 hP hj hB h9 hr hf
    have : fr = n := by omega
    subst this
    refine ⟨C, j, P, fun f hf' => ?_, hT, e5, hj, ⟨hP, fun q q1 q2 => ⟨q2, hB q q1 q2⟩, fun x => absurd x.1 (Nat.lt_irrefl _)⟩, hP, h9, hr, hf⟩
    obtain ⟨f, rfl⟩ : ∃ g, f = g + 1 := ⟨f - 1, by omega⟩
    rw [l4_splitTape_17, hf 1 (by decide), e1, if_pos (by rw [i32_le]; omega)]
  | succ k ih =>
    intro fr j C P hk hfr hT e5 hP hj hB h9 hr hf
    by_cases z : fr < n
    · obtain ⟨tb, tc⟩ := ht fr (by omega)
      have c110 : C 110 = C0 110 := hr 110 (by decide) (by decide) (by decide) (by decide)
      have ht' : ∀ i, i < 400 → t i ≤ 255 ∧ C 110 i = nI (t i) := fun i hi => by rw [c110]; exact ht i hi
      have e1' : C 109 1 = nI n := by rw [hf 1 (by decide), e1]
      obtain ⟨sl, _, sd, _, _⟩ := sg_e tb
      have head : ∀ f, l4_splitTape_17 (f + 1) (nI fr) C = ((if (if Ltr (t fr) = true then (1 : Int32) else 0) = 0 then if (if Dig (t fr) = true then (1 : Int32) else 0) = 0 then if nI (t fr) = 32 then some (nI fr + 1, C) else if nI (t fr) = 10 then some (nI fr + 1, C) else (rJ0_indexOf0_s1 (mI2c (nI (t fr)))).bind fun z2 => (if z2 < 0 then some 130 else some (nI (t fr)) : Option Int32).bind fun z3 => (r4_addToken C z3 0 (nI fr)).bind fun z4 => some (nI fr + 1, z4) else (r4_endOfDigits C (nI fr)).bind fun z5 => (if 4 < z5 - nI fr then some 130 else some 128 : Option Int32).bind fun z6 => (r4_valueOf C (nI fr) z5).bind fun z7 => (r4_addToken C z6 z7 (nI fr)).bind fun z8 => some (z5, z8) else (r4_endOfLetters C (nI fr)).bind fun z9 => (r4_wordKind C (nI fr) z9).bind fun z10 => (r4_addToken C z10 0 (nI fr)).bind fun z11 => some (z9, z11) : Option (Int32 × mI)).bind fun z1 => l4_splitTape_17 f (mMax (nI fr + 1) z1.1) z1.2) := fun f => by
        rw [l4_splitTape_17, e1', if_neg (nI_ge z (by omega)), mLd_n (by omega) (by decide), Option.bind_some, (ht' fr (by omega)).2, sl, sd]
      -- a token taken
      have tok : ∀ κ v e, Tok t n (P j) κ v fr e → ¬ κ = 129 → fr < e → e ≤ n → (∀ f, l4_splitTape_17 (f + 1) (nI fr) C = l4_splitTape_17 f (nI e) (mW (mW (mW (mW C 111 j κ) 112 j v) 113 j (nI fr)) 109 5 (nI (j + 1)))) → ∃ C' J P', (∀ f, k + 1 < f → l4_splitTape_17 f (nI fr) C = some C') ∧ TkC C' t n J P' ∧ C' 109 5 = nI J ∧ J ≤ P' J ∧ Stw (fun i => Blk (t i)) n (P' J) n ∧ P' J ≤ n ∧ (∀ i, i < J → ¬ C' 111 i = 129) ∧ (∀ a, a ≠ 109 → a ≠ 111 → a ≠ 112 → a ≠ 113 → C' a = C0 a) ∧ (∀ i, i ≠ 5 → C' 109 i = C0 109 i) := by
        intro κ v e hTok hκ hlt hen hstep
        obtain ⟨C', J, P', r1, r⟩ := ih e (j + 1) (mW (mW (mW (mW C 111 j κ) 112 j v) 113 j (nI fr)) 109 5 (nI (j + 1))) (fun i => if i = j + 1 then e else P i) (by omega) hen (TkC_add hT hTok (by omega) hj) (mW_at _ _ _ _) (by show (if j + 1 = j + 1 then e else P (j + 1)) ≤ e; rw [if_pos rfl]; exact Nat.le_refl _) (by show j + 1 ≤ (if j + 1 = j + 1 then e else P (j + 1)); rw [if_pos rfl]; omega) (fun q q1 q2 => by
          have q1 : (if j + 1 = j + 1 then e else P (j + 1)) ≤ q := q1
          rw [if_pos rfl] at q1
          omega) (fun i hi => by
          rw [mW_ne _ _ _ (by decide), mW_ne _ _ _ (by decide), mW_ne _ _ _ (by decide)]
          by_cases ei : i = j
          · rw [ei, mW_at]; exact hκ
          · rw [mW_off _ _ ei]; exact h9 i (by omega)) (fun a a1 a2 a3 a4 => by rw [mW_ne _ _ _ a1, mW_ne _ _ _ a4, mW_ne _ _ _ a3, mW_ne _ _ _ a2, hr a a1 a2 a3 a4]) (fun i hi => by rw [mW_off _ _ hi, mW_ne _ _ _ (by decide), mW_ne _ _ _ (by decide), mW_ne _ _ _ (by decide), hf i hi])
        refine ⟨C', J, P', fun f hf' => ?_, r⟩
        obtain ⟨f, rfl⟩ : ∃ g, f = g + 1 := ⟨f - 1, by omega⟩
        rw [hstep f]
        exact r1 f (by omega)
      have stB : Blk (t fr) = false → Stw (fun i => Blk (t i)) n (P j) fr := fun hb => ⟨hP, fun q q1 q2 => ⟨by omega, hB q q1 q2⟩, fun x => by have y : Blk (t fr) = true := x.2; rw [hb] at y; exact absurd y (by decide)⟩
      have mx : ∀ e, fr < e → e ≤ 400 → mMax (nI fr + 1) (nI e) = nI e := fun e h1 h2 => by
        unfold mMax
        rw [nI_1]
        by_cases w : fr + 1 < e
        · rw [if_pos (nI_lt w (by omega))]
        · rw [if_neg (nI_nlt (by omega) (by omega)), show fr + 1 = e by omega]
      cases hL : Ltr (t fr) with
      | true =>
        obtain ⟨e, he, q1⟩ := endL_C hn e1' ht' (s := fr) (by omega)
        have lt := Stw_lt he z hL
        have en := Stw_le he (by omega)
        obtain ⟨w, w1, w2⟩ := wordC (C := C) (t := t) (s := fr) (e := e) lt (by omega) (fun i hi => (ht' i hi).2)
        refine tok _ 0 e ⟨stB (blk_no.1 hL), .inr (.inl ⟨z, hL, he, rfl, w, w1, rfl⟩)⟩ ?_ lt en (fun f => ?_)
        · cases w with
          | none => show ¬ (130 : Int32) = 129; decide
          | some i =>
            show ¬ nI i = 129
            rw [nI_eqk 129 129 rfl (by decide) (by have := w1.1; omega)]
            have := w1.1
            omega
        · rw [head f, hL, if_pos rfl, if_neg one_n0, q1, Option.bind_some, w2, Option.bind_some, addTok (by omega) e5, Option.bind_some, Option.bind_some, mx e lt (by omega)]
          rfl
      | false =>
        cases hD : Dig (t fr) with
        | true =>
          obtain ⟨e, he, q1⟩ := endD_C hn e1' ht' (s := fr) (by omega)
          have lt := Stw_lt he z hD
          have en := Stw_le he (by omega)
          have q2 := val_C ht' (s := fr) (e := e) (by omega) (by omega) (fun q a b => (he.2.1 q a b).2)
          refine tok (if 4 < e - fr then 130 else 128) (nI (vl t fr (min 4 (e - fr)))) e ⟨stB (blk_no.2 hD), .inr (.inr (.inl ⟨z, hL, hD, he, rfl, rfl⟩))⟩ ?_ lt en (fun f => ?_)
          · split <;> decide
          · have i4 : (if 4 < nI e - nI fr then some 130 else some 128 : Option Int32) = some (if 4 < e - fr then 130 else 128) := by
              rw [nI_sub (by omega)]
              by_cases w : 4 < e - fr
              · rw [if_pos (show (4 : Int32) < nI (e - fr) from nI_lt (a := 4) w (by omega)), if_pos w]
              · rw [if_neg (show ¬ (4 : Int32) < nI (e - fr) from nI_nlt (a := 4) (by omega) (by decide)), if_neg w]
            rw [head f, hL, hD, if_neg (show ¬ (false = true) by decide), if_pos rfl, if_pos rfl, if_neg one_n0, q1, Option.bind_some, i4, Option.bind_some, q2, Option.bind_some, addTok (by omega) e5, Option.bind_some, Option.bind_some, mx e lt (by omega)]
        | false =>
          cases hBk : Blk (t fr) with
          | true =>
            obtain ⟨C', J, P', r1, r⟩ := ih (fr + 1) j C P (by omega) (by omega) hT e5 (by omega) hj (fun q q1 q2 => by
              by_cases eq : q = fr
              · rw [eq]; exact hBk
              · exact hB q q1 (by omega)) h9 hr hf
            refine ⟨C', J, P', fun f hf' => ?_, r⟩
            obtain ⟨f, rfl⟩ : ∃ g, f = g + 1 := ⟨f - 1, by omega⟩
            have mm : mMax (nI fr + 1) (nI fr + 1) = nI (fr + 1) := by
              unfold mMax
              rw [nI_1, ite_self]
            rw [head f, hL, hD, if_neg (show ¬ (false = true) by decide), if_pos rfl, if_pos rfl]
            rcases (blk_i tb).mp hBk with b | b
            · rw [if_pos b, Option.bind_some, mm]
              exact r1 f (by omega)
            · rw [if_neg (by rw [b]; decide), if_pos b, Option.bind_some, mm]
              exact r1 f (by omega)
          | false =>
            have nb : ¬ (nI (t fr) = 32 ∨ nI (t fr) = 10) := fun q => by rw [(blk_i tb).mpr q] at hBk; exact absurd hBk (by decide)
            obtain ⟨x, x1, x2⟩ := sgn_C tb
            refine tok (if Sgn (t fr) = true then nI (t fr) else 130) 0 (fr + 1) ⟨stB hBk, .inr (.inr (.inr ⟨z, hL, hD, rfl, rfl, rfl⟩))⟩ ?_ (by omega) (by omega) (fun f => ?_)
            · cases hS : Sgn (t fr) with
              | false => rw [if_neg (show ¬ (false = true) by decide)]; decide
              | true =>
                rw [if_pos rfl, nI_eqk 129 129 rfl (by decide) (by omega)]
                intro q
                rw [q] at hS
                exact absurd hS (by decide)
            · have ix : (if x < 0 then some 130 else some (nI (t fr)) : Option Int32) = some (if Sgn (t fr) = true then nI (t fr) else 130) := by
                cases hS : Sgn (t fr) with
                | false => rw [if_pos (x2.mpr hS), if_neg (show ¬ (false = true) by decide)]
                | true => rw [if_neg (fun q => by have := x2.mp q; rw [hS] at this; exact absurd this (by decide)), if_pos rfl]
              rw [head f, hL, hD, if_neg (show ¬ (false = true) by decide), if_pos rfl, if_pos rfl, if_neg (fun q => nb (.inl q)), if_neg (fun q => nb (.inr q)), x1, Option.bind_some, ix, Option.bind_some, addTok (by omega) e5, Option.bind_some, Option.bind_some, nI_1, show mMax (nI (fr + 1)) (nI (fr + 1)) = nI (fr + 1) by unfold mMax; rw [ite_self]]
    · have : fr = n := by omega
      subst this
      refine ⟨C, j, P, fun f hf' => ?_, hT, e5, hj, ⟨hP, fun q q1 q2 => ⟨q2, hB q q1 q2⟩, fun x => absurd x.1 (Nat.lt_irrefl _)⟩, hP, h9, hr, hf⟩
      obtain ⟨f, rfl⟩ : ∃ g, f = g + 1 := ⟨f - 1, by omega⟩
      rw [l4_splitTape_17, hf 1 (by decide), e1, if_pos (by rw [i32_le]; omega)]
/-- the tape split: J tokens, then the end -/
theorem split_C {C : mI} {t : Nat → Nat} {n : Nat} (hn : n ≤ 400) (ht : ∀ i, i < 400 → t i ≤ 255 ∧ C 110 i = nI (t i)) (e1 : C 109 1 = nI n) : ∃ C' J P, r4_splitTape C = some C' ∧ J ≤ 400 ∧ TkC C' t n (J + 1) P ∧ C' 111 J = 129 ∧ (∀ i, i < J → ¬ C' 111 i = 129) ∧ C' 109 5 = nI (J + 1) ∧ C' 109 6 = 0 ∧ C' 109 7 = 0 ∧ (∀ a, a ≠ 109 → a ≠ 111 → a ≠ 112 → a ≠ 113 → C' a = C a) ∧ (∀ i, i ≠ 5 → i ≠ 6 → i ≠ 7 → C' 109 i = C 109 i) := by
  have f0 : ∀ a, a ≠ 109 → (mW (mW (mW C 109 5 0) 109 6 0) 109 7 0) a = C a := fun a ha => by rw [mW_ne _ _ _ ha, mW_ne _ _ _ ha, mW_ne _ _ _ ha]
  have g0 : ∀ i, i ≠ 5 → i ≠ 6 → i ≠ 7 → (mW (mW (mW C 109 5 0) 109 6 0) 109 7 0) 109 i = C 109 i := fun i h5 h6 h7 => by rw [mW_off _ _ h7, mW_off _ _ h6, mW_off _ _ h5]
  obtain ⟨C', J, P, r1, r2, r3, r4, r5, r6, r7, r8, r9⟩ := split_go (C0 := mW (mW (mW C 109 5 0) 109 6 0) 109 7 0) hn (fun i hi => by rw [f0 110 (by decide)]; exact ht i hi) (by rw [g0 1 (by decide) (by decide) (by decide), e1]) 400 0 0 (mW (mW (mW C 109 5 0) 109 6 0) 109 7 0) (fun _ => 0) (by omega) (by omega) ⟨rfl, fun j hj => absurd hj (Nat.not_lt_zero _)⟩ (by rw [mW_off _ _ (by decide), mW_off _ _ (by decide), mW_at]; rfl) (Nat.le_refl 0) (Nat.le_refl 0) (fun q q1 q2 => absurd q2 (Nat.not_lt_zero _)) (fun i hi => absurd hi (Nat.not_lt_zero _)) (fun _ _ _ _ _ => rfl) (fun _ _ => rfl)
  have r1 : l4_splitTape_17 FU 0 (mW (mW (mW C 109 5 0) 109 6 0) 109 7 0) = some C' := r1 FU (FU_lt (by omega))
  have c1 : C' 109 1 = nI n := by rw [r9 1 (by decide), g0 1 (by decide) (by decide) (by decide), e1]
  have ad := addTok (C := C') (j := J) (by omega) r3 129 0 (nI n)
  refine ⟨_, J, _, ?_, by omega, TkC_add r2 (κ := 129) (v := 0) (s := n) (e := n) ⟨r5, .inl ⟨Nat.lt_irrefl _, rfl, rfl, rfl⟩⟩ r6 r4, ?_, fun i hi => ?_, mW_at _ _ _ _, ?_, ?_, fun a a1 a2 a3 a4 => by rw [mW_ne _ _ _ a1, mW_ne _ _ _ a4, mW_ne _ _ _ a3, mW_ne _ _ _ a2, r8 a a1 a2 a3 a4, f0 a a1], fun i i5 i6 i7 => by rw [mW_off _ _ i5, mW_ne _ _ _ (by decide), mW_ne _ _ _ (by decide), mW_ne _ _ _ (by decide), r9 i i5, g0 i i5 i6 i7]⟩
  · unfold r4_splitTape
    rw [r1, Option.bind_some, c1, ad, Option.bind_some]
  · rw [mW_ne _ _ _ (by decide), mW_ne _ _ _ (by decide), mW_ne _ _ _ (by decide), mW_at]
  · rw [mW_ne _ _ _ (by decide), mW_ne _ _ _ (by decide), mW_ne _ _ _ (by decide), mW_off _ _ (by omega)]
    exact r7 i hi
  · rw [mW_off _ _ (by decide), mW_ne _ _ _ (by decide), mW_ne _ _ _ (by decide), mW_ne _ _ _ (by decide), r9 6 (by decide), mW_off _ _ (by decide), mW_at]
  · rw [mW_off _ _ (by decide), mW_ne _ _ _ (by decide), mW_ne _ _ _ (by decide), mW_ne _ _ _ (by decide), r9 7 (by decide), mW_at]

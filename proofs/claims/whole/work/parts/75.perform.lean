/-! PLAYING A PIECE, IN STEP -/
theorem mW_comm (I : mI) (a i j : Nat) (x y : Int32) (h : i ≠ j) : mW (mW I a i x) a j y = mW (mW I a j y) a i x := by
  funext b k
  rw [mW_rd, mW_rd, mW_rd, mW_rd]
  by_cases e : b = a
  · rw [if_pos e, if_pos e, if_pos e, if_pos e]
    by_cases e1 : k = j
    · rw [if_pos e1, if_pos e1, if_neg (by omega)]
    · rw [if_neg e1, if_neg e1]
  · rw [if_neg e, if_neg e, if_neg e, if_neg e]
theorem VR_to {V : Nat → Int32} {M M' : mI} {p q : Nat} (h : VR V M p q) (hM : ∀ a, (a = 124 ∨ a = 125 ∨ a = 126 ∨ a = 127) → M' a = M a) (h6 : M' 120 6 = M 120 6) (hq : M' 120 (17 + q) = M 120 (17 + q)) (h0 : M' 120 0 = M 120 0) : VR V M' p q := by
  unfold VR at *
  rw [hM 124 (by omega), hM 125 (by omega), hM 126 (by omega), hM 127 (by omega), h6, hq, h0]
  exact h
theorem VR_0 {V : Nat → Int32} {M : mI} {p q : Nat} (h : VR V M p q) : VR0 V M p q := by
  obtain ⟨a, b, c, d, e, f, g, i, j⟩ := h
  exact ⟨a, b, c, d, g, i, j⟩
def VRw (V : Nat → Int32) (M : mI) (p q : Nat) : Prop := V 0 = M 124 q ∧ V 1 = M 125 q ∧ V 2 = M 126 p ∧ V 3 = M 127 p ∧ V 6 = 0 ∧ V 7 = 0 ∧ V 8 = M 120 6 ∧ V 11 = M 120 0
theorem minute_e {C M : mI} {s p q : Nat} (k : Nat) (h : PW C M s) (hp : p < 6) (hq : q < 12) (hV : VR (C 40) M p q) : ∃ v C' M', (∀ f k4 y5, ¬ k4 ≤ nI k → l5_perform_43 s 1 k4 (f + 1) y5 (nI k) C = l5_perform_43 s 1 k4 f (y5 + v) (nI (k + 1)) C') ∧ (∀ f y3, ¬ M 123 q ≤ nI k → l10_plays_5 (nI p) (nI q) (f + 1) y3 (nI k) M = l10_plays_5 (nI p) (nI q) f (y3 + v) (nI (k + 1)) M') ∧ PW C' M' s ∧ frC s C C' ∧ frM M M' ∧ VR (C' 40) M' p q := by
  have hs := PW_s h
  have hS := h.1.1
  have hs' : ∀ a, a ≠ 40 → (mW C 40 9 (nI k)) a = C a := fun a ha => mW_ne _ _ _ ha
  obtain ⟨v, H, H', V, A, bv, g1, hV2, V9, g2⟩ := weeps_e (C := mW C 40 9 (nI k)) (M := M) (s := s) (p := p) (q := q) hs hp hq (by rw [hs' 15 (by decide), hs' 16 (by decide), hs' 17 (by decide)]; exact h.2.2.1) (by rw [hs' s (by omega)]; exact hS.1.1) (by rw [hs' s (by omega)]; exact hS.1.2.1) (by
    rw [mW_row]
    obtain ⟨a, b, c, d, e, f, g, i, j⟩ := hV
    exact ⟨a, b, c, d, e, f, g, i, j⟩)
  rw [mW_at] at V9 g2
  have hC2 : ∀ a, a ≠ 40 → a ≠ 41 → (mU (mU (mW C 40 9 (nI k)) 40 V) 41 H) a = C a := fun a h1 h2 => by rw [mU_ne _ _ h2, mU_ne _ _ h1, hs' a h1]
  have hM2 : ∀ a, a ≠ 142 → a ≠ 143 → (mU (mU M 142 A) 143 H') a = M a := fun a h1 h2 => by rw [mU_ne _ _ h2, mU_ne _ _ h1]
  have c40 : (mU (mU (mW C 40 9 (nI k)) 40 V) 41 H) 40 = V := by rw [mU_ne _ _ (by decide), mU_eq]
  generalize hCd : mU (mU (mW C 40 9 (nI k)) 40 V) 41 H = C2 at *
  generalize hMd : mU (mU M 142 A) 143 H' = M2 at *
  have P2 : PW C2 M2 s := PW_scr h hC2 hM2
  have F2 : frC s C C2 := fun a _ b c _ => hC2 a b c
  have G2 : frM M M2 := fun a _ _ b c => hM2 a b c
  have e4 : C2 s 4 = M2 120 3 := P2.1.1.1.1
  have P3 := PW_f4 P2 (x := mMin 999 (C2 s 4 + v)) (y := mMin 999 (M2 120 3 + v)) (by rw [e4])
  have W3 : VR V (mW M2 120 3 (mMin 999 (M2 120 3 + v))) p q := VR_to hV2 (fun a ha => by rw [mW_ne _ _ _ (by omega), hM2 a (by omega) (by omega)]) (by rw [mW_off _ _ (by decide), hM2 120 (by decide) (by decide)]) (by rw [mW_off _ _ (by omega), hM2 120 (by decide) (by decide)]) (by rw [mW_off _ _ (by decide), hM2 120 (by decide) (by decide)])
  obtain ⟨C', M', q1, q2, P4, F4, G4, W4⟩ := damp_all P3 hp hq (by rw [mW_ne _ _ _ (show (40 : Nat) ≠ s by omega), c40]; exact VR_0 W3)
  rw [mW_ne _ _ _ (show (40 : Nat) ≠ s by omega), c40, V9] at q2
  refine ⟨v, C', M', fun f k4 y5 hk => ?_, fun f y3 hk => ?_, P4, frC_t F2 (frC_t frC_mW0 F4), frM_t G2 (frM_t frM_mW G4), W4⟩
  · rw [l5_perform_43, if_neg hk, g1, Option.bind_some]
    show ((r7_addWater C2 s v).bind fun z1 => _) = _
    unfold r7_addWater
    rw [Option.bind_some, if_neg one_n0, q1, Option.bind_some, Option.bind_some, nI_1]
  · rw [l10_plays_5, mLd_n hq (by decide), Option.bind_some, if_neg hk, g2, Option.bind_some]
    show ((l10_plays_56 _ _ _ _ _ (mW M2 120 3 (r10_lesser 999 (M2 120 3 + v)))).bind fun z1 => _) = _
    rw [lesser_min, q2, Option.bind_some, nI_1]
theorem perform_e {C M : mI} {s p q : Nat} (h : PW C M s) (hp : p < 6) (hq : q < 12) (hp' : nI p < M 119 7) (hq' : nI q < M 119 6) : ∃ v C' M', r5_perform C s (nI p) (nI q) 1 = some (v, C') ∧ r10_plays M (nI p) (nI q) = some (v, M') ∧ PW C' M' s ∧ frC s C C' ∧ frM M M' ∧ VRw (C' 40) M' p q := by
  have hs := PW_s h
  obtain ⟨np, nq, hnp, hnq, en1, en2, en3, en4⟩ := PW_n h
  have kp : p < nq := by rw [en4] at hp'; exact (nI_ltI (by omega) (by omega)).mp hp'
  have kq : q < np := by rw [en2] at hq'; exact (nI_ltI (by omega) (by omega)).mp hq'
  obtain ⟨⟨c6, c7, c9, c10, c11, c12, c13⟩, _, _, w123, _⟩ := h.2.1
  obtain ⟨m, hm, em⟩ := w123 q hq
  have hC1 : ∀ a, a ≠ 40 → (mU C 40 (rowS C s p q)) a = C a := fun a ha => mU_ne _ _ ha
  have P1 : PW (mU C 40 (rowS C s p q)) M s := PW_scr h (fun a h1 _ => hC1 a h1) (fun _ _ _ => rfl)
  have F1 : frC s C (mU C 40 (rowS C s p q)) := fun a _ b _ _ => hC1 a b
  have V1 : VR ((mU C 40 (rowS C s p q)) 40) M p q := by rw [mU_eq]; exact seat_VR hp hq h.1.1 c10 c11 c12 c13
  have e9 : (mU C 40 (rowS C s p q)) 9 q = nI m := by rw [hC1 9 (by decide), c9 q hq, em]
  obtain ⟨⟨sum, C5⟩, ⟨sum', M5⟩, q1, q2, es, P5, F5, G5, W5⟩ := loop2x (fun f k (a : Int32 × mI) => l5_perform_43 s 1 (nI m) f a.1 (nI k) a.2) (fun f k (b : Int32 × mI) => l10_plays_5 (nI p) (nI q) f b.1 (nI k) b.2) (fun k a b => a.1 = b.1 ∧ PW a.2 b.2 s ∧ frC s C a.2 ∧ frM M b.2 ∧ VR (a.2 40) b.2 p q) (fun a b => a.1 = b.1 ∧ PW a.2 b.2 s ∧ frC s C a.2 ∧ frM M b.2 ∧ VR (a.2 40) b.2 p q) m
    (fun a b ⟨e, P, F, G, W⟩ => ⟨a, b, fun f => by show l5_perform_43 _ _ _ (f + 1) _ _ _ = _; rw [l5_perform_43, if_pos (by rw [i32_le]; omega)], fun f => by show l10_plays_5 _ _ (f + 1) _ _ _ = _; rw [l10_plays_5, mLd_n hq (by decide), Option.bind_some, G 123 (by decide) (by decide) (by decide) (by decide), em, if_pos (by rw [i32_le]; omega)], e, P, F, G, W⟩)
    (fun k a b hk ⟨e, P, F, G, W⟩ => by
      obtain ⟨v, C', M', e1, e2, P', F', G', W'⟩ := minute_e k P hp hq W
      refine .inr ⟨(a.1 + v, C'), (b.1 + v, M'), fun f _ => e1 f _ _ (nI_ge hk (by omega)), fun g _ => e2 g _ ?_, by show a.1 + v = b.1 + v; rw [e], P', frC_t F F', frM_t G G', W'⟩
      rw [G 123 (by decide) (by decide) (by decide) (by decide), em]
      exact nI_ge hk (by omega)) m 0 FU FU (0, mU C 40 (rowS C s p q)) (0, M) (by omega) (FU_lt (by omega)) (FU_lt (by omega)) ⟨rfl, P1, F1, frM_r _, V1⟩
  have es : sum = sum' := es
  subst es
  have P5 : PW C5 M5 s := P5
  have F5 : frC s C C5 := F5
  have G5 : frM M M5 := G5
  have W5 : VR (C5 40) M5 p q := W5
  have q1 : l5_perform_43 s 1 (nI m) FU 0 0 (mU C 40 (rowS C s p q)) = some (sum, C5) := q1
  have q2 : l10_plays_5 (nI p) (nI q) FU 0 0 M = some (sum, M5) := q2
  have np5 : ¬ M5 119 6 ≤ nI q := by rw [G5 119 (by decide) (by decide) (by decide) (by decide)]; exact i32_nle.mpr hq'
  have nq5 : ¬ M5 119 7 ≤ nI p := by rw [G5 119 (by decide) (by decide) (by decide) (by decide)]; exact i32_nle.mpr hp'
  have a1 : C5 (s + 2) q = M5 120 (29 + q) := P5.1.1.2.2.2.1 q hq
  have a2 : C5 (s + 3) p = M5 120 (41 + p) := P5.1.1.2.2.2.2 p hp
  have a3 : C5 (s + 1) q = M5 120 (17 + q) := P5.1.1.2.2.1 q hq
  have a4 : C5 s 8 = M5 120 7 := P5.1.1.1.2.2.2.2.1
  have P6 := PW_f8 (PW_played (PW_tears (PW_wept P5 (k := q) (x := M5 120 (29 + q) + sum) hq np5) (k := p) (x := M5 120 (41 + p) + sum) hp nq5) (k := q) (x := M5 120 (17 + q) + 1) hq np5) (x := M5 120 7 + nI m) (y := M5 120 7 + nI m) rfl
  rw [← mW_comm _ 120 7 (17 + q) _ _ (by omega)] at P6
  obtain ⟨C7, M7, n1, n2, P7, F7, G7, c740, m7⟩ := note_e P6 0 (nI q) sum
  refine ⟨sum, C7, M7, ?_, ?_, P7, frC_t F5 (frC_t (frC_t (frC_mW 2 (by decide)) (frC_t (frC_mW 3 (by decide)) (frC_t (frC_mW 1 (by decide)) frC_mW0))) F7), frM_t G5 (frM_t (frM_t frM_mW (frM_t frM_mW (frM_t frM_mW frM_mW))) G7), ?_⟩
  · unfold r5_perform
    rw [knows_y hnp hnq en1 en3 kp kq, if_neg one_n0, seat_e hs hp hq, Option.bind_some, mLd_n hq (by decide), Option.bind_some, e9, q1, Option.bind_some]
    dsimp only
    rw [mLd_n hq (by decide), Option.bind_some, mSto_n hq (by decide), Option.bind_some, mLd_n hp (by decide), Option.bind_some, mSto_n hp (by decide), Option.bind_some, mLd_n hq (by decide), Option.bind_some, mSto_n hq (by decide), Option.bind_some]
    rw [mW_ne _ _ _ (show s + 3 ≠ s + 2 by omega), mW_ne _ _ _ (show s + 1 ≠ s + 3 by omega), mW_ne _ _ _ (show s + 1 ≠ s + 2 by omega), mW_ne _ _ _ (show s ≠ s + 1 by omega), mW_ne _ _ _ (show s ≠ s + 3 by omega), mW_ne _ _ _ (show s ≠ s + 2 by omega), a1, a2, a3, a4, n1, Option.bind_some]
  · unfold r10_plays
    rw [q2, Option.bind_some]
    rw [nI_addl (show (29 : Int32) = nI 29 by decide), nI_addl (show (41 : Int32) = nI 41 by decide), nI_addl (show (17 : Int32) = nI 17 by decide)]
    dsimp only
    rw [mLd_n (by omega) (by decide), Option.bind_some, mSto_n (by omega) (by decide), Option.bind_some, mLd_n (by omega) (by decide), Option.bind_some, mSto_n (by omega) (by decide), Option.bind_some, mLd_n hq (by decide), Option.bind_some, mLd_n (by omega) (by decide), Option.bind_some, mSto_n (by omega) (by decide), Option.bind_some]
    rw [mW_off _ _ (show 41 + p ≠ 29 + q by omega), mW_off _ _ (show 17 + q ≠ 7 by omega), mW_off _ _ (show 17 + q ≠ 41 + p by omega), mW_off _ _ (show 17 + q ≠ 29 + q by omega), mW_off _ _ (show 7 ≠ 41 + p by omega), mW_off _ _ (show 7 ≠ 29 + q by omega), mW_ne _ _ _ (show 123 ≠ 120 by decide), mW_ne _ _ _ (show 123 ≠ 120 by decide), G5 123 (by decide) (by decide) (by decide) (by decide), em, n2, Option.bind_some]
  · obtain ⟨u0, u1, u2, u3, u6, u7, u8, u10, u11⟩ := W5
    have hr : ∀ a, a ≠ 120 → a ≠ 128 → a ≠ 142 → a ≠ 143 → M7 a = M5 a := fun a b1 b2 b3 b4 => by
      rw [G7 a b1 b2 b3 b4, mW_ne _ _ _ b1, mW_ne _ _ _ b1, mW_ne _ _ _ b1, mW_ne _ _ _ b1]
    unfold VRw
    rw [c740, m7 6 (by decide), m7 0 (by decide), hr 124 (by decide) (by decide) (by decide) (by decide), hr 125 (by decide) (by decide) (by decide) (by decide), hr 126 (by decide) (by decide) (by decide) (by decide), hr 127 (by decide) (by decide) (by decide) (by decide)]
    rw [mW_ne _ _ _ (show 40 ≠ s by omega), mW_ne _ _ _ (show 40 ≠ s + 1 by omega), mW_ne _ _ _ (show 40 ≠ s + 3 by omega), mW_ne _ _ _ (show 40 ≠ s + 2 by omega), mW_off _ _ (show 6 ≠ 17 + q by omega), mW_off _ _ (show 6 ≠ 7 by omega), mW_off _ _ (show 6 ≠ 41 + p by omega), mW_off _ _ (show 6 ≠ 29 + q by omega), mW_off _ _ (show 0 ≠ 17 + q by omega), mW_off _ _ (show 0 ≠ 7 by omega), mW_off _ _ (show 0 ≠ 41 + p by omega), mW_off _ _ (show 0 ≠ 29 + q by omega)]
    exact ⟨u0, u1, u2, u3, u6, u7, u8, u11⟩

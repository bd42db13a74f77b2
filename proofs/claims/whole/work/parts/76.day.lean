/-! WAITING, CARE, A LINE OF THE PROGRAMME, A DAY, IN STEP -/
theorem cell18 {I : mI} {l c : Nat} (hl : l < 16) (hc : c < 9) {k : Int32} (hk : k = nI c) : r6_cell_18 I (nI l) k = some (I 19 (9 * l + c)) := by
  unfold r6_cell_18
  rw [hk, show (9 : Int32) = nI 9 from rfl, nI_mul, nI_add, Nat.mul_comm l 9, if_neg (nI_pos (by omega)), if_neg (show ¬ (144 : Int32) ≤ nI (9 * l + c) from nI_ge (b := 144) (by omega) (by decide)), mLd_n (by omega) (by decide), Option.bind_some, Option.bind_some]
theorem cell21 {I : mI} {l c : Nat} (hl : l < 16) (hc : c < 9) {k : Int32} (hk : k = nI c) : r6_cell_21 I (nI l) k = some (I 22 (9 * l + c)) := by
  unfold r6_cell_21
  rw [hk, show (9 : Int32) = nI 9 from rfl, nI_mul, nI_add, Nat.mul_comm l 9, if_neg (nI_pos (by omega)), if_neg (show ¬ (144 : Int32) ≤ nI (9 * l + c) from nI_ge (b := 144) (by omega) (by decide)), mLd_n (by omega) (by decide), Option.bind_some, Option.bind_some]
theorem dry_PW {C M : mI} {s : Nat} (h : PW C M s) {x y : Int32} (e : x = y) : ∃ C' M', r7_dryUp C s x = some C' ∧ r10_salted (mW M 120 3 (M 120 3 - y)) y = some M' ∧ PW C' M' s ∧ frC s C C' ∧ frM M M' ∧ C' 40 = C 40 ∧ (∀ k, k ≠ 3 → k ≠ 4 → M' 120 k = M 120 k) := by
  subst e
  have hs := PW_s h
  have e4 : C s 4 = M 120 3 := h.1.1.1.1
  have e5 : C s 5 = M 120 4 := h.1.1.1.2.1
  have P := PW_f5 (PW_f4 h (x := C s 4 - x) (y := M 120 3 - x) (by rw [e4])) (x := mMin 9999 (M 120 4 + x / 4)) (y := mMin 9999 (M 120 4 + x / 4)) rfl
  refine ⟨_, _, rfl, rfl, ?_, frC_t frC_mW0 frC_mW0, frM_t frM_mW frM_mW, ?_, fun k h3 h4 => ?_⟩
  · rw [mW_off _ _ (show 5 ≠ 4 by decide), mW_off _ _ (show 4 ≠ 3 by decide), lesser_min, e5]
    exact P
  · rw [mW_ne _ _ _ (by omega), mW_ne _ _ _ (by omega)]
  · rw [mW_off _ _ h4, mW_off _ _ h3]
theorem wait_step {C M : mI} {s p q : Nat} (k : Nat) (h : PW C M s) (hp : p < 6) (hq : q < 12) (hk : k < 60) (hw : ¬ M 120 3 ≤ M 120 5 + 10) (hV : VR (C 40) M p q) : ∃ C' M', (∀ f, l5_waitBehind_34 s (f + 1) (nI k) C = l5_waitBehind_34 s f (nI (k + 1)) C') ∧ (∀ f, l10_waits1_2 (nI p) (nI q) (f + 1) (nI k) M = l10_waits1_2 (nI p) (nI q) f (nI (k + 1)) M') ∧ PW C' M' s ∧ frC s C C' ∧ frM M M' ∧ VR (C' 40) M' p q := by
  have hs := PW_s h
  have hS := h.1.1
  have hs' : ∀ a, a ≠ 40 → (mW C 40 9 (nI k)) a = C a := fun a ha => mW_ne _ _ _ ha
  obtain ⟨v, H, H', V, A, bv, g1, hV2, V9, g2⟩ := settles_e (C := mW C 40 9 (nI k)) (M := M) (s := s) (p := p) (q := q) hs hp hq (by rw [hs' 15 (by decide), hs' 16 (by decide), hs' 17 (by decide)]; exact h.2.2.1) (by rw [hs' s (by omega)]; exact hS.1.1) (by rw [hs' s (by omega)]; exact hS.1.2.1) (by
    rw [mW_row]
    obtain ⟨a, b, c, d, e, f, g, i, j⟩ := hV
    exact ⟨a, b, c, d, e, f, g, i, j⟩)
  rw [mW_at] at V9 g2
  have hC2 : ∀ a, a ≠ 40 → a ≠ 41 → (mU (mU (mW C 40 9 (nI k)) 40 V) 41 H) a = C a := fun a h1 h2 => by rw [mU_ne _ _ h2, mU_ne _ _ h1, hs' a h1]
  have hM2 : ∀ a, a ≠ 142 → a ≠ 143 → (mU (mU M 142 A) 143 H') a = M a := fun a h1 h2 => by rw [mU_ne _ _ h2, mU_ne _ _ h1]
  have c40 : (mU (mU (mW C 40 9 (nI k)) 40 V) 41 H) 40 = V := by rw [mU_ne _ _ (by decide), mU_eq]
  have e4 : C s 4 = M 120 3 := hS.1.1
  have e6 : C s 6 = M 120 5 + 10 := hS.1.2.2.1
  have c4 : (mW C 40 9 (nI k)) s 4 = M 120 3 := by rw [hs' s (by omega), e4]
  generalize hCd : mU (mU (mW C 40 9 (nI k)) 40 V) 41 H = C2 at *
  generalize hMd : mU (mU M 142 A) 143 H' = M2 at *
  have P2 : PW C2 M2 s := PW_scr h hC2 hM2
  have F2 : frC s C C2 := fun a _ b c _ => hC2 a b c
  have G2 : frM M M2 := fun a _ _ b c => hM2 a b c
  obtain ⟨C3, M3, d1, d2, P3, F3, G3, c340, m3⟩ := dry_PW P2 (x := mMin (M 120 3) v) rfl
  refine ⟨C3, M3, fun f => ?_, fun f => ?_, P3, frC_t F2 F3, frM_t G2 G3, ?_⟩
  · rw [l5_waitBehind_34, if_neg (show ¬ (60 : Int32) ≤ nI k from nI_ge (b := 60) hk (by decide)), e4, e6, if_neg hw, g1, Option.bind_some, c4]
    show ((r7_dryUp C2 s (mMin (M 120 3) v)).bind fun z1 => _) = _
    rw [d1, Option.bind_some, nI_1]
  · rw [l10_waits1_2]
    unfold r10_dry
    rw [if_neg hw, if_neg (show ¬ (60 : Int32) ≤ nI k from nI_ge (b := 60) hk (by decide)), g2, Option.bind_some]
    show ((r10_salted (mW M2 120 3 (M2 120 3 - r10_lesser (M 120 3) v)) (r10_lesser (M 120 3) v)).bind fun z1 => _) = _
    rw [lesser_min, d2, Option.bind_some, nI_1]
  · rw [c340, c40]
    exact VR_to hV2 (fun a ha => by rw [G3 a (by omega) (by omega) (by omega) (by omega), hM2 a (by omega) (by omega)]) (by rw [m3 6 (by decide) (by decide), hM2 120 (by decide) (by decide)]) (by rw [m3 (17 + q) (by omega) (by omega), hM2 120 (by decide) (by decide)]) (by rw [m3 0 (by decide) (by decide), hM2 120 (by decide) (by decide)])
theorem wait_loop {C M : mI} {s p q : Nat} (h : PW C M s) (hp : p < 6) (hq : q < 12) (hV : VR (C 40) M p q) : ∃ n C' M', n ≤ 60 ∧ l5_waitBehind_34 s FU 0 C = some (nI n, C') ∧ l10_waits1_2 (nI p) (nI q) FU 0 M = some (nI n, M') ∧ PW C' M' s ∧ frC s C C' ∧ frM M M' ∧ VR (C' 40) M' p q := by
  obtain ⟨⟨x, C'⟩, ⟨y, M'⟩, q1, q2, ⟨n, hn, en, en2⟩, P, F, G, W⟩ := loop2x (fun f k (a : mI) => l5_waitBehind_34 s f (nI k) a) (fun f k (b : mI) => l10_waits1_2 (nI p) (nI q) f (nI k) b) (fun k a b => PW a b s ∧ frC s C a ∧ frM M b ∧ VR (a 40) b p q) (fun a b => (∃ n, n ≤ 60 ∧ a.1 = nI n ∧ b.1 = nI n) ∧ PW a.2 b.2 s ∧ frC s C a.2 ∧ frM M b.2 ∧ VR (a.2 40) b.2 p q) 60
    (fun a b ⟨P, F, G, W⟩ => ⟨(nI 60, a), (nI 60, b), fun f => by show l5_waitBehind_34 _ (f + 1) _ _ = _; rw [l5_waitBehind_34, if_pos (by decide)], fun f => by show l10_waits1_2 _ _ (f + 1) _ _ = _; rw [l10_waits1_2, if_pos (show (60 : Int32) ≤ nI 60 by decide), ite_self], ⟨60, by omega, rfl, rfl⟩, P, F, G, W⟩)
    (fun k a b hk ⟨P, F, G, W⟩ => by
      by_cases hw : b 120 3 ≤ b 120 5 + 10
      · have e4 : a s 4 = b 120 3 := P.1.1.1.1
        have e6 : a s 6 = b 120 5 + 10 := P.1.1.1.2.2.1
        refine .inl ⟨(nI k, a), (nI k, b), fun f _ => ?_, fun f _ => ?_, ⟨k, by omega, rfl, rfl⟩, P, F, G, W⟩
        · show l5_waitBehind_34 _ (f + 1) _ _ = _
          rw [l5_waitBehind_34, if_neg (show ¬ (60 : Int32) ≤ nI k from nI_ge (b := 60) hk (by decide)), e4, e6, if_pos hw]
        · show l10_waits1_2 _ _ (f + 1) _ _ = _
          rw [l10_waits1_2]
          unfold r10_dry
          rw [if_pos hw]
      · obtain ⟨C', M', e1, e2, P', F', G', W'⟩ := wait_step k P hp hq hk hw W
        exact .inr ⟨C', M', fun f _ => e1 f, fun g _ => e2 g, P', frC_t F F', frM_t G G', W'⟩) 60 0 FU FU C M (by omega) (FU_lt (by omega)) (FU_lt (by omega)) ⟨h, frC_r _ _, frM_r _, hV⟩
  have en : x = nI n := en
  have en2 : y = nI n := en2
  subst en en2
  exact ⟨n, C', M', hn, q1, q2, P, F, G, W⟩
theorem VRw_VR {C M : mI} {s p q : Nat} (h : PW C M s) (hq : q < 12) (hV : VRw (C 40) M p q) : VR ((mW C 40 10 (C (s + 1) q)) 40) M p q := by
  rw [mW_row]
  obtain ⟨u0, u1, u2, u3, u6, u7, u8, u11⟩ := hV
  exact ⟨u0, u1, u2, u3, u6, u7, u8, h.1.1.2.2.1 q hq, u11⟩
theorem waits_e {C M : mI} {s p q : Nat} (h : PW C M s) (hp : p < 6) (hq : q < 12) (hq' : nI q < M 119 6) (hV : VRw (C 40) M p q) : ∃ v C' M', r5_waitBehind C s (nI q) = some (v, C') ∧ r10_waits1 M (nI p) (nI q) = some M' ∧ PW C' M' s ∧ frC s C C' ∧ frM M M' := by
  have hs := PW_s h
  obtain ⟨np, nq, hnp, hnq, en1, en2, en3, en4⟩ := PW_n h
  have kq : q < np := by rw [en2] at hq'; exact (nI_ltI (by omega) (by omega)).mp hq'
  obtain ⟨n, C2, M2, hn, q1, q2, P2, F2, G2, W2⟩ := wait_loop (C := mW C 40 10 (C (s + 1) q)) (PW_scr h (fun a h1 _ => mW_ne _ _ _ h1) (fun _ _ _ => rfl)) hp hq (VRw_VR h hq hV)
  have F2' : frC s C C2 := fun a b1 b2 b3 b4 => by rw [F2 a b1 b2 b3 b4, mW_ne _ _ _ b2]
  have e9 : C2 s 9 = M2 120 8 := P2.1.1.1.2.2.2.2.2.1
  have P3 := PW_f9 P2 (x := M2 120 8 + nI n) (y := M2 120 8 + nI n) rfl
  obtain ⟨C4, M4, n1, n2, P4, F4, G4, _⟩ := note_e P3 1 (nI q) (nI n)
  unfold r5_waitBehind r10_waits1
  rw [hasPiece_y hnp en1 kq, if_neg one_n0, mLd_n hq (by decide), Option.bind_some, q1, Option.bind_some, q2, Option.bind_some]
  dsimp only
  rw [e9]
  by_cases z : nI n ≤ 0
  · rw [if_pos z, if_pos z, Option.bind_some, Option.bind_some]
    exact ⟨_, _, _, rfl, rfl, P3, frC_t F2' frC_mW0, frM_t G2 frM_mW⟩
  · rw [if_neg z, if_neg z, n1, n2, Option.bind_some, Option.bind_some, Option.bind_some, Option.bind_some]
    exact ⟨_, _, _, rfl, rfl, P4, frC_t (frC_t F2' frC_mW0) F4, frM_t (frM_t G2 frM_mW) G4⟩
/-! care -/
theorem tune_PW {C M : mI} {s k : Nat} (h : PW C M s) (hk : k < 8) : ∃ C' M', r5_tuneString C s (nI k) = some C' ∧ r10_tunes M (nI k) = some M' ∧ PW C' M' s ∧ frC s C C' ∧ frM M M' := by
  have e : C (s + 4) k = M 120 (9 + k) := h.1.1.2.1 k hk
  obtain ⟨C4, M4, n1, n2, P4, F4, G4, _⟩ := note_e h 2 (nI k) (M 120 (9 + k))
  refine ⟨_, _, ?_, ?_, PW_flat P4 hk (x := 0) ⟨0, by omega, rfl⟩, frC_t F4 (frC_mW 4 (by decide)), frM_t G4 frM_mW⟩
  · unfold r5_tuneString
    rw [if_neg (nI_pos (by omega)), if_neg (show ¬ (8 : Int32) ≤ nI k from nI_ge (b := 8) hk (by decide)), mLd_n hk (by decide), Option.bind_some, e, n1, Option.bind_some, mSto_n hk (by decide), Option.bind_some, Option.bind_some]
  · unfold r10_tunes
    rw [nI_addl (show (9 : Int32) = nI 9 by decide), mLd_n (by omega) (by decide), Option.bind_some, n2, Option.bind_some, mSto_n (by omega) (by decide), Option.bind_some]
theorem empty_PW {C M : mI} {s : Nat} (h : PW C M s) : ∃ C' M', r5_emptyDrawer C s = some C' ∧ r10_empties M = some M' ∧ PW C' M' s ∧ frC s C C' ∧ frM M M' := by
  have e : C s 5 = M 120 4 := h.1.1.1.2.1
  obtain ⟨C4, M4, n1, n2, P4, F4, G4, _⟩ := note_e h 3 (-1) (M 120 4)
  refine ⟨_, _, ?_, ?_, PW_f5 P4 (x := 0) (y := 0) rfl, frC_t F4 frC_mW0, frM_t G4 frM_mW⟩
  · unfold r5_emptyDrawer
    rw [e, n1, Option.bind_some]
  · unfold r10_empties
    rw [n2, Option.bind_some]
theorem child_PW {C M : mI} {s : Nat} (h : PW C M s) (x : Int32) : ∃ C' M', r5_bringChild C s x = some C' ∧ r10_isKeptIn M x = some M' ∧ PW C' M' s ∧ frC s C C' ∧ frM M M' := by
  have e : C s 4 = M 120 3 := h.1.1.1.1
  obtain ⟨C4, M4, n1, n2, P4, F4, G4, _⟩ := note_e (PW_f4 h (x := M 120 3 - mMin x (M 120 3)) (y := M 120 3 - mMin x (M 120 3)) rfl) 4 (-1) (mMin x (M 120 3))
  refine ⟨_, _, ?_, ?_, P4, frC_t frC_mW0 F4, frM_t frM_mW G4⟩
  · unfold r5_bringChild
    rw [e, n1, Option.bind_some]
  · unfold r10_isKeptIn
    rw [lesser_min, n2, Option.bind_some]
theorem care_PW {C M : mI} {s l : Nat} (h : PW C M s) (hl : l < 16) {a b : Int32} (hK : (a = 23 ∧ M 140 (3 * l + 1) = 1) ∨ (b = M 140 (3 * l + 2) ∧ ((a = 22 ∧ M 140 (3 * l + 1) = 0 ∧ bd (M 140 (3 * l + 2)) 7) ∨ (a = 24 ∧ M 140 (3 * l + 1) = 2) ∨ (a = 15 ∧ M 140 (3 * l + 1) = 3) ∨ (a = 25 ∧ M 140 (3 * l + 1) = 4)))) : ∃ C' M', r5_takeCare C s a b = some C' ∧ r10_does M (nI (3 * l)) = some M' ∧ PW C' M' s ∧ frC s C C' ∧ frM M M' := by
  have m1 : mLd M 140 96 (nI (3 * l) + 1) = some (M 140 (3 * l + 1)) := by rw [nI_1, mLd_n (by omega) (by decide)]
  have m2 : mLd M 140 96 (nI (3 * l) + 2) = some (M 140 (3 * l + 2)) := by rw [show (2 : Int32) = nI 2 from rfl, nI_add, mLd_n (by omega) (by decide)]
  unfold r5_takeCare r10_does
  rw [m1, Option.bind_some, m2, Option.bind_some]
  rcases hK with ⟨rfl, e⟩ | ⟨rfl, ⟨rfl, e, k, hk, ek⟩ | ⟨rfl, e⟩ | ⟨rfl, e⟩ | ⟨rfl, e⟩⟩
  · obtain ⟨C', M', a1, a2, P, F, G⟩ := empty_PW h
    rw [e, a1]
    simp (decide := true) only [reduceIte, Option.bind_some, a2]
    exact ⟨_, _, rfl, rfl, P, F, G⟩
  · rw [e, ek]
    obtain ⟨C', M', a1, a2, P, F, G⟩ := tune_PW h (k := k) (by omega)
    rw [a1]
    simp (decide := true) only [reduceIte, Option.bind_some, a2]
    exact ⟨_, _, rfl, rfl, P, F, G⟩
  · obtain ⟨C', M', a1, a2, P, F, G⟩ := child_PW h (M 140 (3 * l + 2))
    rw [e, a1]
    simp (decide := true) only [reduceIte, Option.bind_some, a2]
    exact ⟨_, _, rfl, rfl, P, F, G⟩
  · rw [e]
    simp (decide := true) only [reduceIte, Option.bind_some]
    exact ⟨_, _, rfl, rfl, PW_f7 h rfl, frC_mW0, frM_mW⟩
  · rw [e]
    simp (decide := true) only [reduceIte, Option.bind_some]
    exact ⟨_, _, rfl, rfl, PW_f6 h (by rw [Int32.sub_add_cancel]), frC_mW0, frM_mW⟩
/-- what a day needs beside the stage -/
def DW (C M : mI) (s : Nat) : Prop := PW C M s ∧ RelP (C 18) (C 19) (M 119 37) (M 119 6) (M 119 7) (M 139) ∧ RelK (C 21) (C 22) (M 119 39) (M 140)
theorem DW_fr {C M C' M' : mI} {s : Nat} (h : DW C M s) (hP : PW C' M' s) (F : frC s C C') (G : frM M M') : DW C' M' s := by
  have hs := PW_s hP
  refine ⟨hP, ?_, ?_⟩
  · rw [F 18 (by omega) (by omega) (by omega) (by omega), F 19 (by omega) (by omega) (by omega) (by omega), G 119 (by omega) (by omega) (by omega) (by omega), G 139 (by omega) (by omega) (by omega) (by omega)]
    exact h.2.1
  · rw [F 21 (by omega) (by omega) (by omega) (by omega), F 22 (by omega) (by omega) (by omega) (by omega), G 119 (by omega) (by omega) (by omega) (by omega), G 140 (by omega) (by omega) (by omega) (by omega)]
    exact h.2.2
theorem cares_e {C M : mI} {s : Nat} (h : DW C M s) : ∃ C' M', l5_passDay_10 s FU 0 C = some C' ∧ l10_goesBy_2 FU 0 M = some M' ∧ DW C' M' s ∧ frC s C C' ∧ frM M M' := by
  obtain ⟨n, hn, en, ef, hl⟩ := h.2.2
  have e39 : ∀ {M'}, frM M M' → M' 119 39 = nI n := fun G => by rw [G 119 (by decide) (by decide) (by decide) (by decide), en]
  have e2 : ∀ {C'}, DW C' M s ∨ True → frC s C C' → C' 21 2 = nI n := fun {C'} _ F => by
    have hs := PW_s h.1
    rw [F 21 (by omega) (by omega) (by omega) (by omega), ef]
  exact loop2x (fun f k (a : mI) => l5_passDay_10 s f (nI k) a) (fun f k (b : mI) => l10_goesBy_2 f (nI (3 * k)) b) (fun k a b => DW a b s ∧ frC s C a ∧ frM M b) (fun a b => DW a b s ∧ frC s C a ∧ frM M b) n
    (fun a b ⟨P, F, G⟩ => ⟨a, b, fun f => by show l5_passDay_10 _ (f + 1) _ _ = _; rw [l5_passDay_10, e2 (.inr trivial) F, if_pos (by rw [i32_le]; omega)], fun f => by show l10_goesBy_2 (f + 1) _ _ = _; rw [l10_goesBy_2, e39 G, show (3 : Int32) = nI 3 from rfl, nI_mul, if_pos (by rw [i32_le]; omega)], P, F, G⟩)
    (fun k a b hk ⟨P, F, G⟩ => by
      have hs := PW_s h.1
      have a22 : a 22 = C 22 := F 22 (by omega) (by omega) (by omega) (by omega)
      have b140 : b 140 = M 140 := G 140 (by decide) (by decide) (by decide) (by decide)
      have e10 : a s 10 = b 120 0 := P.1.1.1.1.2.2.2.2.2.2.1
      obtain ⟨l0, l1⟩ := hl k hk
      have c0 : r6_cell_21 a (nI k) 0 = some (M 140 (3 * k)) := by rw [cell21 (c := 0) (k := 0) (by omega) (by decide) rfl, a22]; exact congrArg some l0
      have c1 : r6_cell_21 a (nI k) 1 = some (C 22 (9 * k + 1)) := by rw [cell21 (c := 1) (k := 1) (by omega) (by decide) rfl, a22]
      have c2 : r6_cell_21 a (nI k) 2 = some (C 22 (9 * k + 2)) := by rw [cell21 (c := 2) (k := 2) (by omega) (by decide) rfl, a22]
      have n1 : ¬ nI n ≤ nI k := nI_ge hk (by omega)
      have n2 : ¬ nI (3 * n) ≤ nI (3 * k) := nI_ge (by omega) (by omega)
      refine .inr ?_
      by_cases z : M 140 (3 * k) = b 120 0
      · obtain ⟨C', M', q1, q2, P', F', G'⟩ := care_PW P.1 (l := k) (by omega) (a := C 22 (9 * k + 1)) (b := C 22 (9 * k + 2)) (by rw [b140]; exact l1)
        refine ⟨C', M', fun f _ => ?_, fun f _ => ?_, DW_fr P P' F' G', frC_t F F', frM_t G G'⟩
        · show l5_passDay_10 _ (f + 1) _ _ = _
          rw [l5_passDay_10, e2 (.inr trivial) F, if_neg n1, c0, Option.bind_some, e10, if_pos z, c1, c2, Option.bind_some, Option.bind_some, q1, Option.bind_some, Option.bind_some, nI_1]
        · show l10_goesBy_2 (f + 1) _ _ = _
          rw [l10_goesBy_2, e39 G, show (3 : Int32) = nI 3 from rfl, nI_mul, if_neg n2, mLd_n (by omega) (by decide), Option.bind_some, b140, if_pos z, q2, Option.bind_some, Option.bind_some, nI_add]
          rfl
      · refine ⟨a, b, fun f _ => ?_, fun f _ => ?_, P, F, G⟩
        · show l5_passDay_10 _ (f + 1) _ _ = _
          rw [l5_passDay_10, e2 (.inr trivial) F, if_neg n1, c0, Option.bind_some, e10, if_neg z, Option.bind_some, nI_1]
        · show l10_goesBy_2 (f + 1) _ _ = _
          rw [l10_goesBy_2, e39 G, show (3 : Int32) = nI 3 from rfl, nI_mul, if_neg n2, mLd_n (by omega) (by decide), Option.bind_some, b140, if_neg z, Option.bind_some, nI_add]
          rfl) n 0 FU FU C M (by omega) (FU_lt (by omega)) (FU_lt (by omega)) ⟨h, frC_r _ _, frM_r _⟩
theorem line_e {C M : mI} {s l n : Nat} (h : DW C M s) (hn : n ≤ 16) (hl : l < n) (hc : (∃ p, p < 6 ∧ nI p < M 119 7 ∧ C 19 (9 * l + 1) = nI p ∧ M 139 (9 * l + 1) = nI p) ∧ ∃ q, 1 ≤ q ∧ q ≤ 6 ∧ C 19 (9 * l + 2) = nI q ∧ M 139 (9 * l + 2) = nI q ∧ ∀ j, j < q → ∃ p, p < 12 ∧ nI p < M 119 6 ∧ C 19 (9 * l + 3 + j) = nI p ∧ M 139 (9 * l + 3 + j) = nI p) : ∃ C' M', r5_playLine C s (nI l) = some C' ∧ r10_recital M (nI (9 * l)) = some (M 139 (9 * l + 2), M') ∧ DW C' M' s ∧ frC s C C' ∧ frM M M' := by
  have hs := PW_s h.1
  obtain ⟨⟨p, hp, hp', cp, mp⟩, q, q1, q6, cq, mq, hj⟩ := hc
  have main := loop2x (fun f k (a : mI) => l5_playLine_18 s (nI l) (nI q) f (nI k) a) (fun f k (b : mI) => l10_recital_11 (nI (9 * l)) (nI q) f (nI k) b) (fun k a b => DW a b s ∧ frC s C a ∧ frM M b) (fun a b => DW a b s ∧ frC s C a ∧ frM M b) q
    (fun a b ⟨P, F, G⟩ => ⟨a, b, fun f => by show l5_playLine_18 _ _ _ (f + 1) _ _ = _; rw [l5_playLine_18, if_pos (by rw [i32_le]; omega)], fun f => by show l10_recital_11 _ _ (f + 1) _ _ = _; rw [l10_recital_11, if_pos (by rw [i32_le]; omega)], P, F, G⟩)
    (fun k a b hk ⟨P, F, G⟩ => by
      have a19 : a 19 = C 19 := F 19 (by omega) (by omega) (by omega) (by omega)
      have b139 : b 139 = M 139 := G 139 (by decide) (by decide) (by decide) (by decide)
      have b119 : b 119 = M 119 := G 119 (by decide) (by decide) (by decide) (by decide)
      obtain ⟨t, ht, ht', ct, mt⟩ := hj k hk
      obtain ⟨v, C2, M2, g1, g2, P2, F2, G2, W2⟩ := perform_e P.1 hp ht (by rw [b119]; exact hp') (by rw [b119]; exact ht')
      have D2 : DW C2 M2 s := DW_fr P P2 F2 G2
      have n1 : ¬ nI q ≤ nI k := nI_ge hk (by omega)
      have n6 : ¬ (6 : Int32) ≤ nI k := nI_ge (b := 6) (by omega) (by decide)
      have c1 : r6_cell_18 a (nI l) (3 + nI k) = some (nI t) := by
        rw [cell18 (c := 3 + k) (k := 3 + nI k) (by omega) (by omega) (nI_addl rfl), a19, ← Nat.add_assoc, ct]
      have c2 : r6_cell_18 a (nI l) 1 = some (nI p) := by rw [cell18 (c := 1) (k := 1) (by omega) (by decide) rfl, a19, cp]
      have m1 : ∀ z : mI, z 139 = M 139 → mLd z 139 288 (nI (9 * l) + 1) = some (nI p) := fun z hz => by rw [nI_1, mLd_n (by omega) (by decide), hz, mp]
      have m2 : ∀ z : mI, z 139 = M 139 → mLd z 139 288 (nI (9 * l) + 3 + nI k) = some (nI t) := fun z hz => by rw [show (3 : Int32) = nI 3 from rfl, nI_add, nI_add, mLd_n (by omega) (by decide), hz, mt]
      have qs : nI q - 1 = nI (q - 1) := nI_sub (b := 1) q1
      refine .inr ?_
      by_cases z : q ≤ k + 1
      · refine ⟨C2, M2, fun f _ => ?_, fun f _ => ?_, D2, frC_t F F2, frM_t G G2⟩
        · show l5_playLine_18 _ _ _ (f + 1) _ _ = _
          rw [l5_playLine_18, if_neg n1, if_neg n6, c1, Option.bind_some, c2, Option.bind_some, g1, Option.bind_some, nI_1 k, if_pos (by rw [nI_leI (by omega) (by omega)]; exact z), Option.bind_some]
        · show l10_recital_11 _ _ (f + 1) _ _ = _
          rw [l10_recital_11, if_neg n1, m1 b b139, Option.bind_some, m2 b b139, Option.bind_some, g2, Option.bind_some, qs, if_pos (by rw [nI_leI (by omega) (by omega)]; omega), Option.bind_some, nI_1 k]
      · obtain ⟨v', C3, M3, g3, g4, P3, F3, G3⟩ := waits_e P2 hp ht (by rw [G2 119 (by decide) (by decide) (by decide) (by decide), b119]; exact ht') W2
        have b139' : M2 139 = M 139 := by rw [G2 139 (by decide) (by decide) (by decide) (by decide), b139]
        refine ⟨C3, M3, fun f _ => ?_, fun f _ => ?_, DW_fr D2 P3 F3 G3, frC_t F (frC_t F2 F3), frM_t G (frM_t G2 G3)⟩
        · show l5_playLine_18 _ _ _ (f + 1) _ _ = _
          rw [l5_playLine_18, if_neg n1, if_neg n6, c1, Option.bind_some, c2, Option.bind_some, g1, Option.bind_some, nI_1 k, if_neg (by rw [nI_leI (by omega) (by omega)]; exact z)]
          show (((r5_waitBehind C2 s (nI t)).bind fun z4 => some z4.2).bind fun z3 => _) = _
          rw [g3, Option.bind_some, Option.bind_some]
        · show l10_recital_11 _ _ (f + 1) _ _ = _
          rw [l10_recital_11, if_neg n1, m1 b b139, Option.bind_some, m2 b b139, Option.bind_some, g2, Option.bind_some, qs, if_neg (by rw [nI_leI (by omega) (by omega)]; omega), m1 M2 b139', Option.bind_some, m2 M2 b139', Option.bind_some, g4, Option.bind_some, Option.bind_some, nI_1 k]) q 0 FU FU C M (by omega) (FU_lt (by omega)) (FU_lt (by omega)) ⟨h, frC_r _ _, frM_r _⟩
  obtain ⟨C', M', e1, e2, P, F, G⟩ := main
  refine ⟨C', M', ?_, ?_, P, F, G⟩
  · unfold r5_playLine
    rw [cell18 (c := 2) (k := 2) (by omega) (by decide) rfl, Option.bind_some, cq]
    show ((l5_playLine_18 s (nI l) (nI q) FU (nI 0) C).bind fun z => _) = _
    rw [show l5_playLine_18 s (nI l) (nI q) FU (nI 0) C = some C' from e1, Option.bind_some]
  · unfold r10_recital
    rw [show (2 : Int32) = nI 2 from rfl, nI_add, mLd_n (by omega) (by decide), Option.bind_some, mq]
    show ((l10_recital_11 (nI (9 * l)) (nI q) FU (nI 0) M).bind fun z => _) = _
    rw [show l10_recital_11 (nI (9 * l)) (nI q) FU (nI 0) M = some M' from e2, Option.bind_some]
theorem greater_max (x y : Int32) : r10_greater x y = mMax x y := by
  unfold r10_greater mMax
  by_cases a : x < y
  · rw [if_pos a, if_pos (by rw [i32_le]; rw [i32_lt] at a; omega)]
  · rw [if_neg a]
    by_cases b : x ≤ y
    · rw [if_pos b, i32_eq]; rw [i32_lt] at a; rw [i32_le] at b; omega
    · rw [if_neg b]
theorem lines_e {C M : mI} {s : Nat} (h : DW C M s) : ∃ v C' M', l5_passDay_69 s FU 0 0 C = some (v, C') ∧ l10_goesBy_43 FU 0 0 M = some (v, M') ∧ DW C' M' s ∧ frC s C C' ∧ frM M M' := by
  have hs := PW_s h.1
  obtain ⟨n, hn, en, ef, hl⟩ := h.2.1
  have e37 : ∀ {M'}, frM M M' → M' 119 37 = nI n := fun G => by rw [G 119 (by decide) (by decide) (by decide) (by decide), en]
  have e2 : ∀ {C'}, frC s C C' → C' 18 2 = nI n := fun F => by
    rw [F 18 (by omega) (by omega) (by omega) (by omega), ef]
  obtain ⟨⟨x, C'⟩, ⟨y, M'⟩, q1, q2, exy, P, F, G⟩ := loop2x (fun f k (a : Int32 × mI) => l5_passDay_69 s f a.1 (nI k) a.2) (fun f k (b : Int32 × mI) => l10_goesBy_43 f b.1 (nI (9 * k)) b.2) (fun k a b => a.1 = b.1 ∧ DW a.2 b.2 s ∧ frC s C a.2 ∧ frM M b.2) (fun a b => a.1 = b.1 ∧ DW a.2 b.2 s ∧ frC s C a.2 ∧ frM M b.2) n
    (fun a b ⟨e, P, F, G⟩ => ⟨a, b, fun f => by show l5_passDay_69 _ (f + 1) _ _ _ = _; rw [l5_passDay_69, e2 F, if_pos (by rw [i32_le]; omega)], fun f => by show l10_goesBy_43 (f + 1) _ _ _ = _; rw [l10_goesBy_43, e37 G, show (9 : Int32) = nI 9 from rfl, nI_mul, if_pos (by rw [i32_le]; omega)], e, P, F, G⟩)
    (fun k a b hk ⟨e, P, F, G⟩ => by
      obtain ⟨y, a⟩ := a
      obtain ⟨y', b⟩ := b
      have e : y = y' := e
      subst e
      have P : DW a b s := P
      have F : frC s C a := F
      have G : frM M b := G
      have a19 : a 19 = C 19 := F 19 (by omega) (by omega) (by omega) (by omega)
      have b139 : b 139 = M 139 := G 139 (by decide) (by decide) (by decide) (by decide)
      have b119 : b 119 = M 119 := G 119 (by decide) (by decide) (by decide) (by decide)
      have e10 : a s 10 = b 120 0 := P.1.1.1.1.2.2.2.2.2.2.1
      obtain ⟨l0, l1⟩ := hl k hk
      have c0 : r6_cell_18 a (nI k) 0 = some (M 139 (9 * k)) := by rw [cell18 (c := 0) (k := 0) (by omega) (by decide) rfl, a19]; exact congrArg some l0
      have n1 : ¬ nI n ≤ nI k := nI_ge hk (by omega)
      have n2 : ¬ nI (9 * n) ≤ nI (9 * k) := nI_ge (by omega) (by omega)
      refine .inr ?_
      by_cases z : M 139 (9 * k) = b 120 0
      · obtain ⟨C', M', q1, q2, P', F', G'⟩ := line_e P hn hk (by rw [b119, a19, b139]; exact l1)
        have c2 : r6_cell_18 C' (nI k) 2 = some (b 139 (9 * k + 2)) := by
          rw [cell18 (c := 2) (k := 2) (by omega) (by decide) rfl, F' 19 (by omega) (by omega) (by omega) (by omega), a19, b139]
          obtain ⟨_, q, _, _, cq, mq, _⟩ := l1
          rw [cq, mq]
        refine ⟨(y + b 139 (9 * k + 2), C'), (y + b 139 (9 * k + 2), M'), fun f _ => ?_, fun f _ => ?_, rfl, P', frC_t F F', frM_t G G'⟩
        · show l5_passDay_69 _ (f + 1) y _ a = _
          rw [l5_passDay_69, e2 F, if_neg n1, c0, Option.bind_some, e10, if_pos z, q1, Option.bind_some, c2, Option.bind_some, Option.bind_some, nI_1]
        · show l10_goesBy_43 (f + 1) y _ b = _
          rw [l10_goesBy_43, e37 G, show (9 : Int32) = nI 9 from rfl, nI_mul, if_neg n2, mLd_n (by omega) (by decide), Option.bind_some, b139, if_pos z, q2, Option.bind_some, Option.bind_some, nI_add, b139]
          rfl
      · refine ⟨(y, a), (y, b), fun f _ => ?_, fun f _ => ?_, rfl, P, F, G⟩
        · show l5_passDay_69 _ (f + 1) y _ a = _
          rw [l5_passDay_69, e2 F, if_neg n1, c0, Option.bind_some, e10, if_neg z, Option.bind_some, nI_1]
        · show l10_goesBy_43 (f + 1) y _ b = _
          rw [l10_goesBy_43, e37 G, show (9 : Int32) = nI 9 from rfl, nI_mul, if_neg n2, mLd_n (by omega) (by decide), Option.bind_some, b139, if_neg z, Option.bind_some, nI_add]
          rfl) n 0 FU FU (0, C) (0, M) (by omega) (FU_lt (by omega)) (FU_lt (by omega)) ⟨rfl, h, frC_r _ _, frM_r _⟩
  have exy : x = y := exy
  subst exy
  exact ⟨x, C', M', q1, q2, P, F, G⟩
/-- a day -/
theorem day_e {C M : mI} {s : Nat} (h : DW C M s) : ∃ v C' M', r5_passDay C s = some (v, C') ∧ r10_goesBy M = some (v, M') ∧ DW C' M' s ∧ frC s C C' ∧ frM M M' := by
  obtain ⟨C1, M1, a1, b1, D1, F1, G1⟩ := cares_e h
  obtain ⟨v, C2, M2, a2, b2, D2, F2, G2⟩ := lines_e D1
  have e4 : C2 s 4 = M2 120 3 := D2.1.1.1.1.1
  obtain ⟨C3, M3, a3, b3, P3, F3, G3, _, m3⟩ := dry_PW D2.1 (x := M2 120 3 - M2 120 3 / 2) rfl
  have e7 : C3 s 7 = M3 120 6 := P3.1.1.1.2.2.2.1
  have e10 : C3 s 10 = M3 120 0 := P3.1.1.1.2.2.2.2.2.2.1
  have P4 := PW_f10 (PW_f7 P3 (x := mMax 0 (M3 120 6 - 1)) (y := mMax 0 (M3 120 6 - 1)) rfl) (x := M3 120 0 + 1) (y := M3 120 0 + 1) rfl
  refine ⟨v, _, _, ?_, ?_, DW_fr D2 P4 (frC_t F3 (frC_t frC_mW0 frC_mW0)) (frM_t G3 (frM_t frM_mW frM_mW)), frC_t F1 (frC_t F2 (frC_t F3 (frC_t frC_mW0 frC_mW0))), frM_t G1 (frM_t G2 (frM_t G3 (frM_t frM_mW frM_mW)))⟩
  · unfold r5_passDay
    rw [a1, Option.bind_some, a2, Option.bind_some]
    show ((r7_dryUp C2 s (C2 s 4 - C2 s 4 / 2)).bind fun z2 => _) = _
    rw [e4, a3, Option.bind_some, mW_off _ _ (show 10 ≠ 7 by decide), e7, e10]
  · unfold r10_goesBy
    rw [b1, Option.bind_some, b2, Option.bind_some]
    show ((r10_salted (mW M2 120 3 (M2 120 3 - (M2 120 3 - M2 120 3 / 2))) (M2 120 3 - M2 120 3 / 2)).bind fun z2 => _) = _
    rw [b3, Option.bind_some, greater_max]

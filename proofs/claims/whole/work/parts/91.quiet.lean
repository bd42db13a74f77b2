/-! LASTS: a piece played in thought, unheard, in step -/
/-- what the water needs: the class's dream and the reference's row, played alike where S says -/
def QW (C M : mI) (S : Nat → Prop) : Prop := (C 35 4 = M 120 3 ∧ C 35 5 = M 120 4 ∧ C 35 6 = M 120 5 + 10 ∧ C 35 7 = M 120 6 ∧ C 35 10 = M 120 0) ∧ (∀ k, k < 12 → S k → C 36 k = M 120 (17 + k)) ∧ (RelC (C 8) (C 9) (C 10) (C 11) (C 12) (C 13) (M 119 6) (M 119 7) (M 123) (M 124) (M 125) (M 126) (M 127) ∧ WfC (M 119 6) (M 119 7) (M 123) (M 124) (M 125) (M 126) (M 127)) ∧ RelLaw (C 15) (C 16) (C 17) (M 131 0) (M 132) (M 133) (M 134) (M 135) (M 136) (M 137) ∧ C 1 3 = 0 ∧ M 119 5 = 1
theorem QW_to {C M C' M' : mI} {S : Nat → Prop} (h : QW C M S) (hC : ∀ a, (a = 1 ∨ (8 ≤ a ∧ a ≤ 13) ∨ (15 ≤ a ∧ a ≤ 17)) → C' a = C a) (hM : ∀ a, (a = 119 ∨ (123 ≤ a ∧ a ≤ 127) ∨ (131 ≤ a ∧ a ≤ 137)) → M' a = M a) (h5 : C' 35 4 = M' 120 3 ∧ C' 35 5 = M' 120 4 ∧ C' 35 6 = M' 120 5 + 10 ∧ C' 35 7 = M' 120 6 ∧ C' 35 10 = M' 120 0) (hp : ∀ k, k < 12 → S k → C' 36 k = M' 120 (17 + k)) : QW C' M' S := by
  obtain ⟨_, _, hc, hl, h1, h2⟩ := h
  refine ⟨h5, hp, ?_, ?_, ?_, ?_⟩
  · rw [hC 8 (by omega), hC 9 (by omega), hC 10 (by omega), hC 11 (by omega), hC 12 (by omega), hC 13 (by omega), hM 119 (by omega), hM 123 (by omega), hM 124 (by omega), hM 125 (by omega), hM 126 (by omega), hM 127 (by omega)]; exact hc
  · rw [hC 15 (by omega), hC 16 (by omega), hC 17 (by omega), hM 131 (by omega), hM 132 (by omega), hM 133 (by omega), hM 134 (by omega), hM 135 (by omega), hM 136 (by omega), hM 137 (by omega)]; exact hl
  · rw [hC 1 (by omega), h1]
  · rw [hM 119 (by omega), h2]
theorem flat_q {C M : mI} {S : Nat → Prop} (h : QW C M S) {p q k : Nat} (hp : p < 6) (hq : q < 12) (hk : k < 8) (mi : Int32) (hV : VR0 (C 40) M p q) : ∃ M', r10_goesFlat M (nI p) (nI q) (nI k) mi = some M' ∧ (∀ a, a ≠ 120 → a ≠ 142 → a ≠ 143 → M' a = M a) ∧ (∀ j, ¬ (9 ≤ j ∧ j < 17) → M' 120 j = M 120 j) := by
  obtain ⟨⟨w4, w5, w6, w7, w10⟩, hpl, hc, hl, h1, h2⟩ := h
  obtain ⟨v0, v1, v2, v3, v8, v10, v11⟩ := hV
  have r40 : (mW (mW (mW C 40 9 mi) 40 7 (nI k)) 40 6 (M 120 (9 + k))) 40 = mU (mU (mU (C 40) 9 mi) 7 (nI k)) 6 (M 120 (9 + k)) := by rw [mW_row, mW_row, mW_row]
  have hs' : ∀ a, a ≠ 40 → (mW (mW (mW C 40 9 mi) 40 7 (nI k)) 40 6 (M 120 (9 + k))) a = C a := fun a ha => by rw [mW_ne _ _ _ ha, mW_ne _ _ _ ha, mW_ne _ _ _ ha]
  obtain ⟨v, H, H', V, A, bv, g1, hV2, V9, g2⟩ := damps_e (C := mW (mW (mW C 40 9 mi) 40 7 (nI k)) 40 6 (M 120 (9 + k))) (M := M) (s := 35) (p := p) (q := q) (st := k) (.inr rfl) hp hq hk (by rw [hs' 15 (by decide), hs' 16 (by decide), hs' 17 (by decide)]; exact hl) (by rw [hs' 35 (by omega)]; exact w4) (by rw [hs' 35 (by omega)]; exact w5) (by
    rw [r40]
    exact ⟨v0, v1, v2, v3, rfl, rfl, v8, v10, v11⟩)
  have g2' : r10_dampsOf M (nI p) (nI q) (nI k) mi = some (v, mU (mU M 142 A) 143 H') := by
    rw [r40] at g2
    exact g2
  have hM2 : ∀ a, a ≠ 142 → a ≠ 143 → (mU (mU M 142 A) 143 H') a = M a := fun a h1 h2 => by rw [mU_ne _ _ h2, mU_ne _ _ h1]
  generalize mU (mU M 142 A) 143 H' = M2 at *
  have m5 : M2 119 5 = 1 := by rw [hM2 119 (by decide) (by decide), h2]
  unfold r10_goesFlat
  rw [g2', Option.bind_some]
  dsimp only
  rw [if_neg (show ¬ M2 119 5 = 0 by rw [m5]; exact one_n0)]
  by_cases z : (2 : Int32) * v < 1000
  · rw [if_pos z, Option.bind_some]
    refine ⟨M2, rfl, fun a _ b c => hM2 a b c, fun j _ => by rw [hM2 120 (by decide) (by decide)]⟩
  · rw [if_neg z, Option.bind_some]
    dsimp only
    rw [if_neg one_n0, nI_addl (show (9 : Int32) = nI 9 by decide), mLd_n (by omega) (by decide), Option.bind_some, mSto_n (by omega) (by decide), Option.bind_some, Option.bind_some]
    refine ⟨_, rfl, fun a b c d => by rw [mW_ne _ _ _ b, hM2 a c d], fun j hj => by rw [mW_off _ _ (by omega), hM2 120 (by decide) (by decide)]⟩
theorem flats_q {C M : mI} {S : Nat → Prop} (h : QW C M S) {p q : Nat} (hp : p < 6) (hq : q < 12) (mi : Int32) (hV : VR0 (C 40) M p q) : ∃ M', l10_plays_56 (nI p) (nI q) mi FU 0 M = some M' ∧ (∀ a, a ≠ 120 → a ≠ 142 → a ≠ 143 → M' a = M a) ∧ (∀ j, ¬ (9 ≤ j ∧ j < 17) → M' 120 j = M 120 j) := by
  exact loop1 (fun f k (m : mI) => l10_plays_56 (nI p) (nI q) mi f (nI k) m) (fun k m => (∀ a, a ≠ 120 → a ≠ 142 → a ≠ 143 → m a = M a) ∧ (∀ j, ¬ (9 ≤ j ∧ j < 17) → m 120 j = M 120 j)) (fun m => (∀ a, a ≠ 120 → a ≠ 142 → a ≠ 143 → m a = M a) ∧ (∀ j, ¬ (9 ≤ j ∧ j < 17) → m 120 j = M 120 j)) 8
    (fun m hm => ⟨m, fun f => by show l10_plays_56 _ _ _ (f + 1) _ _ = _; rw [l10_plays_56, if_pos (by decide)], hm⟩)
    (fun k m hk ⟨f1, f2⟩ => by
      have hm : QW C m S := by
        refine QW_to h (fun _ _ => rfl) (fun a ha => f1 a (by omega) (by omega) (by omega)) ?_ (fun j hj hS => by rw [f2 _ (by omega)]; exact h.2.1 j hj hS)
        rw [f2 3 (by omega), f2 4 (by omega), f2 5 (by omega), f2 6 (by omega), f2 0 (by omega)]
        exact h.1
      obtain ⟨m', q1, g1, g2⟩ := flat_q hm hp hq hk mi (by
        unfold VR0 at *
        rw [f1 124 (by decide) (by decide) (by decide), f1 125 (by decide) (by decide) (by decide), f1 126 (by decide) (by decide) (by decide), f1 127 (by decide) (by decide) (by decide), f2 6 (by omega), f2 (17 + q) (by omega), f2 0 (by omega)]
        exact hV)
      refine .inr ⟨m', fun f _ => ?_, fun a b c d => by rw [g1 a b c d, f1 a b c d], fun j hj => by rw [g2 j hj, f2 j hj]⟩
      show l10_plays_56 _ _ _ (f + 1) _ _ = _
      rw [l10_plays_56, if_neg (show ¬ (8 : Int32) ≤ nI k from nI_ge (b := 8) hk (by decide)), q1, Option.bind_some, nI_1]) 8 0 FU M (by omega) (FU_lt (by omega)) ⟨fun _ _ _ _ => rfl, fun _ _ => rfl⟩
/-- what a step leaves -/
def frq (C C' : mI) : Prop := (∀ a, a ≠ 35 → a ≠ 40 → a ≠ 41 → C' a = C a) ∧ (∀ k, k ≠ 4 → k ≠ 5 → C' 35 k = C 35 k)
def frn (M M' : mI) : Prop := (∀ a, a ≠ 120 → a ≠ 142 → a ≠ 143 → M' a = M a) ∧ (∀ k, k ≠ 3 → k ≠ 4 → ¬ (9 ≤ k ∧ k < 17) → M' 120 k = M 120 k)
theorem frq_t {A B C : mI} (h1 : frq A B) (h2 : frq B C) : frq A C := ⟨fun a x y z => (h2.1 a x y z).trans (h1.1 a x y z), fun k x y => (h2.2 k x y).trans (h1.2 k x y)⟩
theorem frn_t {A B C : mI} (h1 : frn A B) (h2 : frn B C) : frn A C := ⟨fun a x y z => (h2.1 a x y z).trans (h1.1 a x y z), fun k x y z => (h2.2 k x y z).trans (h1.2 k x y z)⟩
theorem frq_r (A : mI) : frq A A := ⟨fun _ _ _ _ => rfl, fun _ _ _ => rfl⟩
theorem frn_r (A : mI) : frn A A := ⟨fun _ _ _ _ => rfl, fun _ _ _ _ => rfl⟩
theorem minute_q {C M : mI} {S : Nat → Prop} {p q : Nat} (k : Nat) (h : QW C M S) (hp : p < 6) (hq : q < 12) (hV : VR (C 40) M p q) : ∃ v C' M', (∀ f k4 y5, ¬ k4 ≤ nI k → l5_perform_43 35 0 k4 (f + 1) y5 (nI k) C = l5_perform_43 35 0 k4 f (y5 + v) (nI (k + 1)) C') ∧ (∀ f y3, ¬ M 123 q ≤ nI k → l10_plays_5 (nI p) (nI q) (f + 1) y3 (nI k) M = l10_plays_5 (nI p) (nI q) f (y3 + v) (nI (k + 1)) M') ∧ QW C' M' S ∧ frq C C' ∧ frn M M' ∧ C' 35 5 = C 35 5 ∧ VR (C' 40) M' p q := by
  obtain ⟨⟨w4, w5, w6, w7, w10⟩, hpl, hc, hl, h1, h2⟩ := h
  have hall : QW C M S := ⟨⟨w4, w5, w6, w7, w10⟩, hpl, hc, hl, h1, h2⟩
  have hs' : ∀ a, a ≠ 40 → (mW C 40 9 (nI k)) a = C a := fun a ha => mW_ne _ _ _ ha
  obtain ⟨v, H, H', V, A, bv, g1, hV2, V9, g2⟩ := weeps_e (C := mW C 40 9 (nI k)) (M := M) (s := 35) (p := p) (q := q) (.inr rfl) hp hq (by rw [hs' 15 (by decide), hs' 16 (by decide), hs' 17 (by decide)]; exact hl) (by rw [hs' 35 (by omega)]; exact w4) (by rw [hs' 35 (by omega)]; exact w5) (by
    rw [mW_row]
    obtain ⟨a, b, c, d, e, f, g, i, j⟩ := hV
    exact ⟨a, b, c, d, e, f, g, i, j⟩)
  rw [mW_at] at V9 g2
  have hC2 : ∀ a, a ≠ 40 → a ≠ 41 → (mU (mU (mW C 40 9 (nI k)) 40 V) 41 H) a = C a := fun a h1 h2 => by rw [mU_ne _ _ h2, mU_ne _ _ h1, hs' a h1]
  have hM2 : ∀ a, a ≠ 142 → a ≠ 143 → (mU (mU M 142 A) 143 H') a = M a := fun a h1 h2 => by rw [mU_ne _ _ h2, mU_ne _ _ h1]
  have c40 : (mU (mU (mW C 40 9 (nI k)) 40 V) 41 H) 40 = V := by rw [mU_ne _ _ (by decide), mU_eq]
  generalize mU (mU (mW C 40 9 (nI k)) 40 V) 41 H = C2 at *
  generalize mU (mU M 142 A) 143 H' = M2 at *
  have e4 : C2 35 4 = M2 120 3 := by rw [hC2 35 (by decide) (by decide), hM2 120 (by decide) (by decide), w4]
  have m120 := hM2 120 (by decide) (by decide)
  have P3 : QW (mW C2 35 4 (mMin 999 (M2 120 3 + v))) (mW M2 120 3 (mMin 999 (M2 120 3 + v))) S := by
    refine QW_to hall (fun a ha => by rw [mW_ne _ _ _ (by omega), hC2 a (by omega) (by omega)]) (fun a ha => by rw [mW_ne _ _ _ (by omega), hM2 a (by omega) (by omega)]) ?_ (fun j hj hS => by rw [mW_ne _ _ _ (by decide), hC2 36 (by decide) (by decide), mW_off _ _ (by omega), m120]; exact hpl j hj hS)
    rw [mW_at, mW_at, mW_off _ _ (by decide), mW_off _ _ (by decide), mW_off _ _ (by decide), mW_off _ _ (by decide), mW_off _ _ (by decide), mW_off _ _ (by decide), mW_off _ _ (by decide), mW_off _ _ (by decide), hC2 35 (by decide) (by decide), m120]
    exact ⟨rfl, w5, w6, w7, w10⟩
  have W3 : VR V (mW M2 120 3 (mMin 999 (M2 120 3 + v))) p q := VR_to hV2 (fun a ha => by rw [mW_ne _ _ _ (by omega), hM2 a (by omega) (by omega)]) (by rw [mW_off _ _ (by decide), m120]) (by rw [mW_off _ _ (by omega), m120]) (by rw [mW_off _ _ (by decide), m120])
  have c40' : (mW C2 35 4 (mMin 999 (M2 120 3 + v))) 40 = V := by rw [mW_ne _ _ _ (by decide), c40]
  obtain ⟨M', q2, f1, f2⟩ := flats_q P3 hp hq (nI k) (by rw [c40']; exact VR_0 W3)
  have P4 : QW (mW C2 35 4 (mMin 999 (M2 120 3 + v))) M' S := by
    refine QW_to P3 (fun _ _ => rfl) (fun a ha => f1 a (by omega) (by omega) (by omega)) ?_ (fun j hj hS => by rw [f2 _ (by omega)]; exact P3.2.1 j hj hS)
    rw [f2 3 (by omega), f2 4 (by omega), f2 5 (by omega), f2 6 (by omega), f2 0 (by omega)]
    exact P3.1
  refine ⟨v, mW C2 35 4 (mMin 999 (M2 120 3 + v)), M', fun f k4 y5 hk => ?_, fun f y3 hk => ?_, P4, ⟨fun a b c d => by rw [mW_ne _ _ _ b, hC2 a c d], fun k h4 _ => by rw [mW_off _ _ h4, hC2 35 (by decide) (by decide)]⟩, ⟨fun a b c d => by rw [f1 a b c d, mW_ne _ _ _ b, hM2 a c d], fun k h3 h4 h9 => by rw [f2 k h9, mW_off _ _ h3, m120]⟩, by rw [mW_off _ _ (by decide), hC2 35 (by decide) (by decide)], ?_⟩
  · rw [l5_perform_43, if_neg hk, g1, Option.bind_some]
    dsimp only
    unfold r7_addWater
    rw [Option.bind_some, if_pos rfl, Option.bind_some, nI_1, e4]
  · rw [l10_plays_5, mLd_n hq (by decide), Option.bind_some, if_neg hk, g2, Option.bind_some]
    dsimp only
    rw [lesser_min, q2, Option.bind_some, nI_1]
  · rw [c40']
    exact VR_to W3 (fun a ha => f1 a (by omega) (by omega) (by omega)) (f2 6 (by omega)) (f2 _ (by omega)) (f2 0 (by omega))
theorem QW_n {C M : mI} {S : Nat → Prop} (h : QW C M S) : ∃ np nq, np ≤ 12 ∧ nq ≤ 6 ∧ C 8 6 = nI np ∧ M 119 6 = nI np ∧ C 8 7 = nI nq ∧ M 119 7 = nI nq := by
  obtain ⟨⟨a, b, _⟩, ⟨np, hp, ep⟩, ⟨nq, hq, eq⟩, _⟩ := h.2.2.1
  exact ⟨np, nq, hp, hq, by rw [a, ep], ep, by rw [b, eq], eq⟩
theorem notes_q {M : mI} (h : M 119 5 = 1) (x y z : Int32) : r10_notes M x y z = some M := by
  unfold r10_notes
  rw [if_neg (show ¬ M 119 5 = 0 by rw [h]; exact one_n0)]
theorem note_q {C : mI} (h : C 1 3 = 0) (x y z : Int32) : r5_note C x y z = some C := by
  unfold r5_note
  rw [if_pos h, Option.bind_some]
theorem perform_q {C M : mI} {S : Nat → Prop} {p q : Nat} (h : QW C M S) (hS : S q) (hp : p < 6) (hq : q < 12) (hp' : nI p < M 119 7) (hq' : nI q < M 119 6) : ∃ v C' M', r5_perform C 35 (nI p) (nI q) 0 = some (v, C') ∧ r10_plays M (nI p) (nI q) = some (v, M') ∧ QW C' M' S ∧ VRw (C' 40) M' p q ∧ (∀ a, ¬ (35 ≤ a ∧ a ≤ 38) → a ≠ 40 → a ≠ 41 → C' a = C a) ∧ (∀ k, k ≠ 4 → k ≠ 5 → k ≠ 8 → C' 35 k = C 35 k) ∧ (∀ k, k ≠ q → C' 36 k = C 36 k) ∧ C' 36 q = C 36 q + 1 ∧ (∀ a, a ≠ 120 → a ≠ 142 → a ≠ 143 → M' a = M a) ∧ M' 120 7 = M 120 7 + M 123 q ∧ M' 120 8 = M 120 8 ∧ (∀ k, k ≠ q → k < 12 → M' 120 (17 + k) = M 120 (17 + k)) := by
  obtain ⟨np, nq, hnp, hnq, en1, en2, en3, en4⟩ := QW_n h
  have kp : p < nq := by rw [en4] at hp'; exact (nI_ltI (by omega) (by omega)).mp hp'
  have kq : q < np := by rw [en2] at hq'; exact (nI_ltI (by omega) (by omega)).mp hq'
  obtain ⟨⟨c6, c7, c9, c10, c11, c12, c13⟩, _, _, w123, _⟩ := h.2.2.1
  obtain ⟨m, hm, em⟩ := w123 q hq
  obtain ⟨⟨w4, w5, w6, w7, w10⟩, hpl, hc, hl, h1, h2⟩ := h
  have hall : QW C M S := ⟨⟨w4, w5, w6, w7, w10⟩, hpl, hc, hl, h1, h2⟩
  have hC1 : ∀ a, a ≠ 40 → (mU C 40 (rowS C 35 p q)) a = C a := fun a ha => mU_ne _ _ ha
  have P1 : QW (mU C 40 (rowS C 35 p q)) M S := QW_to hall (fun a ha => hC1 a (by omega)) (fun _ _ => rfl) ⟨w4, w5, w6, w7, w10⟩ hpl
  have F1 : frq C (mU C 40 (rowS C 35 p q)) := ⟨fun a _ b _ => hC1 a b, fun k _ _ => by rw [hC1 35 (by decide)]⟩
  have V1 : VR ((mU C 40 (rowS C 35 p q)) 40) M p q := by
    rw [mU_eq]
    exact ⟨c10 q hq, c11 q hq, c12 p hp, c13 p hp, rfl, rfl, w7, hpl q hq hS, w10⟩
  have e9 : (mU C 40 (rowS C 35 p q)) 9 q = nI m := by rw [hC1 9 (by decide), c9 q hq, em]
  obtain ⟨⟨sum, C5⟩, ⟨sum', M5⟩, q1, q2, es, P5, F5, G5, S5, W5⟩ := loop2x (fun f k (a : Int32 × mI) => l5_perform_43 35 0 (nI m) f a.1 (nI k) a.2) (fun f k (b : Int32 × mI) => l10_plays_5 (nI p) (nI q) f b.1 (nI k) b.2) (fun k a b => a.1 = b.1 ∧ QW a.2 b.2 S ∧ frq C a.2 ∧ frn M b.2 ∧ a.2 35 5 = C 35 5 ∧ VR (a.2 40) b.2 p q) (fun a b => a.1 = b.1 ∧ QW a.2 b.2 S ∧ frq C a.2 ∧ frn M b.2 ∧ a.2 35 5 = C 35 5 ∧ VR (a.2 40) b.2 p q) m
    (fun a b ⟨e, P, F, G, T, W⟩ => ⟨a, b, fun f => by show l5_perform_43 _ _ _ (f + 1) _ _ _ = _; rw [l5_perform_43, if_pos (by rw [i32_le]; omega)], fun f => by show l10_plays_5 _ _ (f + 1) _ _ _ = _; rw [l10_plays_5, mLd_n hq (by decide), Option.bind_some, G.1 123 (by decide) (by decide) (by decide), em, if_pos (by rw [i32_le]; omega)], e, P, F, G, T, W⟩)
    (fun k a b hk ⟨e, P, F, G, T, W⟩ => by
      obtain ⟨v, C', M', e1, e2, P', F', G', T', W'⟩ := minute_q k P hp hq W
      refine .inr ⟨(a.1 + v, C'), (b.1 + v, M'), fun f _ => e1 f _ _ (nI_ge hk (by omega)), fun g _ => e2 g _ ?_, by show a.1 + v = b.1 + v; rw [e], P', frq_t F F', frn_t G G', by show C' 35 5 = _; rw [T', T], W'⟩
      rw [G.1 123 (by decide) (by decide) (by decide), em]
      exact nI_ge hk (by omega)) m 0 FU FU (0, mU C 40 (rowS C 35 p q)) (0, M) (by omega) (FU_lt (by omega)) (FU_lt (by omega)) ⟨rfl, P1, F1, frn_r _, by show (mU C 40 (rowS C 35 p q)) 35 5 = _; rw [hC1 35 (by decide)], V1⟩
  have es : sum = sum' := es
  subst es
  have P5 : QW C5 M5 S := P5
  have F5 : frq C C5 := F5
  have G5 : frn M M5 := G5
  have W5 : VR (C5 40) M5 p q := W5
  have q1 : l5_perform_43 35 0 (nI m) FU 0 0 (mU C 40 (rowS C 35 p q)) = some (sum, C5) := q1
  have q2 : l10_plays_5 (nI p) (nI q) FU 0 0 M = some (sum, M5) := q2
  obtain ⟨⟨u4, u5, u6, u7, u10⟩, upl, uc, ul, u1, u2⟩ := P5
  refine ⟨sum, mW (mW (mW (mW C5 37 q (C5 37 q + sum)) 38 p (C5 38 p + sum)) 36 q (C5 36 q + 1)) 35 8 (C5 35 8 + nI m), mW (mW (mW (mW M5 120 (29 + q) (M5 120 (29 + q) + sum)) 120 (41 + p) (M5 120 (41 + p) + sum)) 120 7 (M5 120 7 + nI m)) 120 (17 + q) (M5 120 (17 + q) + 1), ?_, ?_, ?_, ?_, fun a b c d => ?_, fun k k4 k5 k8 => ?_, fun k hk => ?_, ?_, fun a b c d => ?_, ?_, ?_, fun k hk hk12 => ?_⟩
  · unfold r5_perform
    rw [knows_y hnp hnq en1 en3 kp kq, if_neg one_n0, seat_e (.inr rfl) hp hq, Option.bind_some, mLd_n hq (by decide), Option.bind_some, e9, q1, Option.bind_some]
    dsimp only
    rw [mLd_n hq (by decide), Option.bind_some, mSto_n hq (by decide), Option.bind_some, mLd_n hp (by decide), Option.bind_some, mSto_n hp (by decide), Option.bind_some, mLd_n hq (by decide), Option.bind_some, mSto_n hq (by decide), Option.bind_some]
    rw [note_q (by rw [mW_ne _ _ _ (by decide), mW_ne _ _ _ (by decide), mW_ne _ _ _ (by decide), mW_ne _ _ _ (by decide)]; exact u1), Option.bind_some]
    rfl
  · unfold r10_plays
    rw [q2, Option.bind_some]
    rw [nI_addl (show (29 : Int32) = nI 29 by decide), nI_addl (show (41 : Int32) = nI 41 by decide), nI_addl (show (17 : Int32) = nI 17 by decide)]
    dsimp only
    rw [mLd_n (by omega) (by decide), Option.bind_some, mSto_n (by omega) (by decide), Option.bind_some, mLd_n (by omega) (by decide), Option.bind_some, mSto_n (by omega) (by decide), Option.bind_some, mLd_n hq (by decide), Option.bind_some, mLd_n (by omega) (by decide), Option.bind_some, mSto_n (by omega) (by decide), Option.bind_some]
    rw [mW_off _ _ (show 41 + p ≠ 29 + q by omega), mW_off _ _ (show 17 + q ≠ 7 by omega), mW_off _ _ (show 17 + q ≠ 41 + p by omega), mW_off _ _ (show 17 + q ≠ 29 + q by omega), mW_off _ _ (show 7 ≠ 41 + p by omega), mW_off _ _ (show 7 ≠ 29 + q by omega), mW_ne _ _ _ (show 123 ≠ 120 by decide), mW_ne _ _ _ (show 123 ≠ 120 by decide), G5.1 123 (by decide) (by decide) (by decide), em, notes_q (by rw [mW_ne _ _ _ (by decide), mW_ne _ _ _ (by decide), mW_ne _ _ _ (by decide), mW_ne _ _ _ (by decide)]; exact u2), Option.bind_some]
  · refine QW_to ⟨⟨u4, u5, u6, u7, u10⟩, upl, uc, ul, u1, u2⟩ (fun a ha => by rw [mW_ne _ _ _ (by omega), mW_ne _ _ _ (by omega), mW_ne _ _ _ (by omega), mW_ne _ _ _ (by omega)]) (fun a ha => by rw [mW_ne _ _ _ (by omega), mW_ne _ _ _ (by omega), mW_ne _ _ _ (by omega), mW_ne _ _ _ (by omega)]) ?_ (fun k hk hS => ?_)
    · have rc : ∀ k, k ≠ 8 → (mW (mW (mW (mW C5 37 q (C5 37 q + sum)) 38 p (C5 38 p + sum)) 36 q (C5 36 q + 1)) 35 8 (C5 35 8 + nI m)) 35 k = C5 35 k := fun k hk => by rw [mW_off _ _ hk, mW_ne _ _ _ (by decide), mW_ne _ _ _ (by decide), mW_ne _ _ _ (by decide)]
      have rm : ∀ k, k < 7 → (mW (mW (mW (mW M5 120 (29 + q) (M5 120 (29 + q) + sum)) 120 (41 + p) (M5 120 (41 + p) + sum)) 120 7 (M5 120 7 + nI m)) 120 (17 + q) (M5 120 (17 + q) + 1)) 120 k = M5 120 k := fun k hk => by rw [mW_off _ _ (by omega), mW_off _ _ (by omega), mW_off _ _ (by omega), mW_off _ _ (by omega)]
      rw [rc 4 (by decide), rc 5 (by decide), rc 6 (by decide), rc 7 (by decide), rc 10 (by decide), rm 3 (by decide), rm 4 (by decide), rm 5 (by decide), rm 6 (by decide), rm 0 (by decide)]
      exact ⟨u4, u5, u6, u7, u10⟩
    · rw [mW_ne _ _ _ (by decide)]
      by_cases e : k = q
      · rw [e, mW_at, mW_at, upl q hq (e ▸ hS)]
      · rw [mW_off _ _ e, mW_ne _ _ _ (by decide), mW_ne _ _ _ (by decide), mW_off _ _ (by omega), mW_off _ _ (by omega), mW_off _ _ (by omega), mW_off _ _ (by omega)]
        exact upl k hk hS
  · obtain ⟨a0, a1, a2, a3, a6, a7, a8, a10, a11⟩ := W5
    unfold VRw
    rw [mW_ne _ _ _ (show 40 ≠ 35 by decide), mW_ne _ _ _ (show 40 ≠ 36 by decide), mW_ne _ _ _ (show 40 ≠ 38 by decide), mW_ne _ _ _ (show 40 ≠ 37 by decide), mW_off _ _ (show 6 ≠ 17 + q by omega), mW_off _ _ (show 6 ≠ 7 by omega), mW_off _ _ (show 6 ≠ 41 + p by omega), mW_off _ _ (show 6 ≠ 29 + q by omega), mW_off _ _ (show 0 ≠ 17 + q by omega), mW_off _ _ (show 0 ≠ 7 by omega), mW_off _ _ (show 0 ≠ 41 + p by omega), mW_off _ _ (show 0 ≠ 29 + q by omega)]
    exact ⟨a0, a1, a2, a3, a6, a7, a8, a11⟩
  · rw [mW_ne _ _ _ (by omega), mW_ne _ _ _ (by omega), mW_ne _ _ _ (by omega), mW_ne _ _ _ (by omega), F5.1 a (by omega) c d]
  · rw [mW_off _ _ k8, mW_ne _ _ _ (by decide), mW_ne _ _ _ (by decide), mW_ne _ _ _ (by decide), F5.2 k k4 k5]
  · rw [mW_ne _ _ _ (by decide), mW_off _ _ hk, mW_ne _ _ _ (by decide), mW_ne _ _ _ (by decide), F5.1 36 (by decide) (by decide) (by decide)]
  · rw [mW_ne _ _ _ (by decide), mW_at, F5.1 36 (by decide) (by decide) (by decide)]
  · rw [mW_ne _ _ _ b, mW_ne _ _ _ b, mW_ne _ _ _ b, mW_ne _ _ _ b, G5.1 a b c d]
  · rw [mW_off _ _ (by omega), mW_at, G5.2 7 (by decide) (by decide) (by omega), em]
  · rw [mW_off _ _ (by omega), mW_off _ _ (by decide), mW_off _ _ (by omega), mW_off _ _ (by omega), G5.2 8 (by decide) (by decide) (by omega)]
  · rw [mW_off _ _ (by omega), mW_off _ _ (by omega), mW_off _ _ (by omega), mW_off _ _ (by omega), G5.2 (17 + k) (by omega) (by omega) (by omega)]
theorem waitst_q {C M : mI} {S : Nat → Prop} {p q : Nat} (k : Nat) (h : QW C M S) (hp : p < 6) (hq : q < 12) (hk : k < 60) (hw : ¬ M 120 3 ≤ M 120 5 + 10) (hV : VR (C 40) M p q) : ∃ C' M', (∀ f, l5_waitBehind_34 35 (f + 1) (nI k) C = l5_waitBehind_34 35 f (nI (k + 1)) C') ∧ (∀ f, l10_waits1_2 (nI p) (nI q) (f + 1) (nI k) M = l10_waits1_2 (nI p) (nI q) f (nI (k + 1)) M') ∧ QW C' M' S ∧ frq C C' ∧ frn M M' ∧ VR (C' 40) M' p q := by
  obtain ⟨⟨w4, w5, w6, w7, w10⟩, hpl, hc, hl, h1, h2⟩ := h
  have hall : QW C M S := ⟨⟨w4, w5, w6, w7, w10⟩, hpl, hc, hl, h1, h2⟩
  have hs' : ∀ a, a ≠ 40 → (mW C 40 9 (nI k)) a = C a := fun a ha => mW_ne _ _ _ ha
  obtain ⟨v, H, H', V, A, bv, g1, hV2, V9, g2⟩ := settles_e (C := mW C 40 9 (nI k)) (M := M) (s := 35) (p := p) (q := q) (.inr rfl) hp hq (by rw [hs' 15 (by decide), hs' 16 (by decide), hs' 17 (by decide)]; exact hl) (by rw [hs' 35 (by omega)]; exact w4) (by rw [hs' 35 (by omega)]; exact w5) (by
    rw [mW_row]
    obtain ⟨a, b, c, d, e, f, g, i, j⟩ := hV
    exact ⟨a, b, c, d, e, f, g, i, j⟩)
  rw [mW_at] at V9 g2
  have hC2 : ∀ a, a ≠ 40 → a ≠ 41 → (mU (mU (mW C 40 9 (nI k)) 40 V) 41 H) a = C a := fun a h1 h2 => by rw [mU_ne _ _ h2, mU_ne _ _ h1, hs' a h1]
  have hM2 : ∀ a, a ≠ 142 → a ≠ 143 → (mU (mU M 142 A) 143 H') a = M a := fun a h1 h2 => by rw [mU_ne _ _ h2, mU_ne _ _ h1]
  have c40 : (mU (mU (mW C 40 9 (nI k)) 40 V) 41 H) 40 = V := by rw [mU_ne _ _ (by decide), mU_eq]
  have c4 : (mW C 40 9 (nI k)) 35 4 = M 120 3 := by rw [hs' 35 (by omega), w4]
  generalize mU (mU (mW C 40 9 (nI k)) 40 V) 41 H = C2 at *
  generalize mU (mU M 142 A) 143 H' = M2 at *
  have m120 := hM2 120 (by decide) (by decide)
  have c35 := hC2 35 (by decide) (by decide)
  have e4 : C2 35 4 = M2 120 3 := by rw [c35, m120, w4]
  have e5 : C2 35 5 = M2 120 4 := by rw [c35, m120, w5]
  generalize hx : mMin (M 120 3) v = x
  refine ⟨mW (mW C2 35 4 (M2 120 3 - x)) 35 5 (mMin 9999 (M2 120 4 + x / 4)), mW (mW M2 120 3 (M2 120 3 - x)) 120 4 (mMin 9999 (M2 120 4 + x / 4)), fun f => ?_, fun f => ?_, ?_, ⟨fun a b c d => by rw [mW_ne _ _ _ b, mW_ne _ _ _ b, hC2 a c d], fun j j4 j5 => by rw [mW_off _ _ j5, mW_off _ _ j4, c35]⟩, ⟨fun a b c d => by rw [mW_ne _ _ _ b, mW_ne _ _ _ b, hM2 a c d], fun j j3 j4 _ => by rw [mW_off _ _ j4, mW_off _ _ j3, m120]⟩, ?_⟩
  · rw [l5_waitBehind_34, if_neg (show ¬ (60 : Int32) ≤ nI k from nI_ge (b := 60) hk (by decide)), w4, w6, if_neg hw, g1, Option.bind_some, c4]
    dsimp only
    unfold r7_dryUp
    rw [Option.bind_some, nI_1, hx, mW_off _ _ (show 5 ≠ 4 by decide), e4, e5]
  · rw [l10_waits1_2]
    unfold r10_dry r10_salted
    rw [if_neg hw, if_neg (show ¬ (60 : Int32) ≤ nI k from nI_ge (b := 60) hk (by decide)), g2, Option.bind_some]
    dsimp only
    rw [lesser_min, hx, lesser_min, mW_off _ _ (show 4 ≠ 3 by decide), Option.bind_some, nI_1]
  · refine QW_to hall (fun a ha => by rw [mW_ne _ _ _ (by omega), mW_ne _ _ _ (by omega), hC2 a (by omega) (by omega)]) (fun a ha => by rw [mW_ne _ _ _ (by omega), mW_ne _ _ _ (by omega), hM2 a (by omega) (by omega)]) ?_ (fun j hj hS => by rw [mW_ne _ _ _ (by decide), mW_ne _ _ _ (by decide), hC2 36 (by decide) (by decide), mW_off _ _ (by omega), mW_off _ _ (by omega), m120]; exact hpl j hj hS)
    have rc : ∀ j, j ≠ 4 → j ≠ 5 → (mW (mW C2 35 4 (M2 120 3 - x)) 35 5 (mMin 9999 (M2 120 4 + x / 4))) 35 j = C 35 j := fun j a b => by rw [mW_off _ _ b, mW_off _ _ a, c35]
    have rm : ∀ j, j ≠ 3 → j ≠ 4 → (mW (mW M2 120 3 (M2 120 3 - x)) 120 4 (mMin 9999 (M2 120 4 + x / 4))) 120 j = M 120 j := fun j a b => by rw [mW_off _ _ b, mW_off _ _ a, m120]
    rw [rc 6 (by decide) (by decide), rc 7 (by decide) (by decide), rc 10 (by decide) (by decide), rm 5 (by decide) (by decide), rm 6 (by decide) (by decide), rm 0 (by decide) (by decide)]
    refine ⟨?_, ?_, w6, w7, w10⟩
    · rw [mW_off _ _ (show 4 ≠ 5 by decide), mW_at, mW_off _ _ (show 3 ≠ 4 by decide), mW_at]
    · rw [mW_at, mW_at]
  · rw [mW_ne _ _ _ (by decide), mW_ne _ _ _ (by decide), c40]
    exact VR_to hV2 (fun a ha => by rw [mW_ne _ _ _ (by omega), mW_ne _ _ _ (by omega), hM2 a (by omega) (by omega)]) (by rw [mW_off _ _ (by decide), mW_off _ _ (by decide), m120]) (by rw [mW_off _ _ (by omega), mW_off _ _ (by omega), m120]) (by rw [mW_off _ _ (by decide), mW_off _ _ (by decide), m120])
theorem wait_q {C M : mI} {S : Nat → Prop} {p q : Nat} (h : QW C M S) (hS : S q) (hp : p < 6) (hq : q < 12) (hq' : nI q < M 119 6) (hV : VRw (C 40) M p q) : ∃ n C' M', n ≤ 60 ∧ r5_waitBehind C 35 (nI q) = some (nI n, C') ∧ r10_waits1 M (nI p) (nI q) = some M' ∧ QW C' M' S ∧ (∀ a, a ≠ 35 → a ≠ 40 → a ≠ 41 → C' a = C a) ∧ (∀ k, k ≠ 4 → k ≠ 5 → k ≠ 9 → C' 35 k = C 35 k) ∧ (∀ a, a ≠ 120 → a ≠ 142 → a ≠ 143 → M' a = M a) ∧ M' 120 7 = M 120 7 ∧ M' 120 8 = M 120 8 + nI n ∧ (∀ k, k < 12 → M' 120 (17 + k) = M 120 (17 + k)) := by
  obtain ⟨np, nq, hnp, hnq, en1, en2, en3, en4⟩ := QW_n h
  have kq : q < np := by rw [en2] at hq'; exact (nI_ltI (by omega) (by omega)).mp hq'
  have P0 : QW (mW C 40 10 (C 36 q)) M S := QW_to h (fun a ha => mW_ne _ _ _ (by omega)) (fun _ _ => rfl) (by rw [mW_ne _ _ _ (show 35 ≠ 40 by decide)]; exact h.1) (fun k hk hs => by rw [mW_ne _ _ _ (show 36 ≠ 40 by decide)]; exact h.2.1 k hk hs)
  have V0 : VR ((mW C 40 10 (C 36 q)) 40) M p q := by
    rw [mW_row]
    obtain ⟨u0, u1, u2, u3, u6, u7, u8, u11⟩ := hV
    exact ⟨u0, u1, u2, u3, u6, u7, u8, h.2.1 q hq hS, u11⟩
  have F0 : frq C (mW C 40 10 (C 36 q)) := ⟨fun a _ b _ => mW_ne _ _ _ b, fun k _ _ => by rw [mW_ne _ _ _ (by decide)]⟩
  obtain ⟨⟨x, C2⟩, ⟨y, M2⟩, q1, q2, ⟨n, hn, en, en2'⟩, P, F, G, W⟩ := loop2x (fun f k (a : mI) => l5_waitBehind_34 35 f (nI k) a) (fun f k (b : mI) => l10_waits1_2 (nI p) (nI q) f (nI k) b) (fun k a b => QW a b S ∧ frq C a ∧ frn M b ∧ VR (a 40) b p q) (fun a b => (∃ n, n ≤ 60 ∧ a.1 = nI n ∧ b.1 = nI n) ∧ QW a.2 b.2 S ∧ frq C a.2 ∧ frn M b.2 ∧ VR (a.2 40) b.2 p q) 60
    (fun a b ⟨P, F, G, W⟩ => ⟨(nI 60, a), (nI 60, b), fun f => by show l5_waitBehind_34 _ (f + 1) _ _ = _; rw [l5_waitBehind_34, if_pos (by decide)], fun f => by show l10_waits1_2 _ _ (f + 1) _ _ = _; rw [l10_waits1_2, if_pos (show (60 : Int32) ≤ nI 60 by decide), ite_self], ⟨60, by omega, rfl, rfl⟩, P, F, G, W⟩)
    (fun k a b hk ⟨P, F, G, W⟩ => by
      by_cases hw : b 120 3 ≤ b 120 5 + 10
      · have e4 : a 35 4 = b 120 3 := P.1.1
        have e6 : a 35 6 = b 120 5 + 10 := P.1.2.2.1
        refine .inl ⟨(nI k, a), (nI k, b), fun f _ => ?_, fun f _ => ?_, ⟨k, by omega, rfl, rfl⟩, P, F, G, W⟩
        · show l5_waitBehind_34 _ (f + 1) _ _ = _
          rw [l5_waitBehind_34, if_neg (show ¬ (60 : Int32) ≤ nI k from nI_ge (b := 60) hk (by decide)), e4, e6, if_pos hw]
        · show l10_waits1_2 _ _ (f + 1) _ _ = _
          rw [l10_waits1_2]
          unfold r10_dry
          rw [if_pos hw]
      · obtain ⟨C', M', e1, e2, P', F', G', W'⟩ := waitst_q k P hp hq hk hw W
        exact .inr ⟨C', M', fun f _ => e1 f, fun g _ => e2 g, P', frq_t F F', frn_t G G', W'⟩) 60 0 FU FU (mW C 40 10 (C 36 q)) M (by omega) (FU_lt (by omega)) (FU_lt (by omega)) ⟨P0, F0, frn_r _, V0⟩
  have en : x = nI n := en
  have en2' : y = nI n := en2'
  subst en en2'
  have q1 : l5_waitBehind_34 35 FU 0 (mW C 40 10 (C 36 q)) = some (nI n, C2) := q1
  have q2 : l10_waits1_2 (nI p) (nI q) FU 0 M = some (nI n, M2) := q2
  have P : QW C2 M2 S := P
  have F : frq C C2 := F
  have G : frn M M2 := G
  obtain ⟨⟨u4, u5, u6, u7, u10⟩, upl, uc, ul, u1, u2⟩ := P
  refine ⟨n, mW C2 35 9 (C2 35 9 + nI n), mW M2 120 8 (M2 120 8 + nI n), hn, ?_, ?_, ?_, fun a b c d => by rw [mW_ne _ _ _ b, F.1 a b c d], fun k k4 k5 k9 => by rw [mW_off _ _ k9, F.2 k k4 k5], fun a b c d => by rw [mW_ne _ _ _ b, G.1 a b c d], by rw [mW_off _ _ (by decide), G.2 7 (by decide) (by decide) (by omega)], by rw [mW_at, G.2 8 (by decide) (by decide) (by omega)], fun k hk => by rw [mW_off _ _ (by omega), G.2 (17 + k) (by omega) (by omega) (by omega)]⟩
  · unfold r5_waitBehind
    rw [hasPiece_y hnp en1 kq, if_neg one_n0, mLd_n hq (by decide), Option.bind_some, q1, Option.bind_some]
    dsimp only
    rw [note_q (by rw [mW_ne _ _ _ (by decide)]; exact u1), Option.bind_some, ite_self, Option.bind_some]
  · unfold r10_waits1
    rw [q2, Option.bind_some]
    dsimp only
    rw [notes_q (by rw [mW_ne _ _ _ (by decide)]; exact u2), Option.bind_some, ite_self, Option.bind_some]
  · refine QW_to ⟨⟨u4, u5, u6, u7, u10⟩, upl, uc, ul, u1, u2⟩ (fun a ha => mW_ne _ _ _ (by omega)) (fun a ha => mW_ne _ _ _ (by omega)) ?_ (fun k hk hs => by rw [mW_ne _ _ _ (show 36 ≠ 35 by decide), mW_off _ _ (by omega)]; exact upl k hk hs)
    rw [mW_off _ _ (show 4 ≠ 9 by decide), mW_off _ _ (show 5 ≠ 9 by decide), mW_off _ _ (show 6 ≠ 9 by decide), mW_off _ _ (show 7 ≠ 9 by decide), mW_off _ _ (show 10 ≠ 9 by decide), mW_off _ _ (show 3 ≠ 8 by decide), mW_off _ _ (show 4 ≠ 8 by decide), mW_off _ _ (show 5 ≠ 8 by decide), mW_off _ _ (show 6 ≠ 8 by decide), mW_off _ _ (show 0 ≠ 8 by decide)]
    exact ⟨u4, u5, u6, u7, u10⟩

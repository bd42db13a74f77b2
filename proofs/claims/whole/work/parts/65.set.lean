/-! SET, FEED, PERIOD, TONE, PEDAL, BOOK -/
theorem nI_mul (a b : Nat) : nI a * nI b = nI (a * b) := (Int32.ofNat_mul a b).symm
theorem Inv_keepU {I J : mI} {s : Nat} (h : Inv I s) (hW : RelW J J) (hr : ∀ a, 77 ≤ a → a < 109 → J a = I a) (h1 : J 121 = I 121) (h3 : J 119 3 = I 119 3) (h6 : J 119 6 = I 119 6) (h7 : J 119 7 = I 119 7) (hI : RelI (J 0 3) (J 119 59) (fun k => J (k + 42)) (unf (J 154))) (hT : RelT (J 109 1) (J 119 15) (J 110) (J 129)) (hF : J 109 11 = J 119 35 ∧ J 109 12 = J 119 36) (hC : J 119 5 = 0 ∧ eqOn 143 (J 130) (fun k => mWords.getD k 0)) : Inv J s :=
  ⟨hW, RelU_congr hr h1 h3 h6 h7 h.2.1, hI, hT, hF, hC, h.2.2.2.2.2.2⟩
theorem RelS_f4 {f p w t l N : Nat → Int32} (h : RelS f p w t l N) {x y : Int32} (hx : x = y) : RelS (mU f 4 x) p w t l (mU N 3 y) := by
  obtain ⟨⟨a1, a2, a3, a4, a5, a6, a7, a8, a9⟩, b1, b2, b3, b4⟩ := h
  refine ⟨⟨hx, a2, a3, a4, a5, a6, a7, a8, a9⟩, fun k hk => ?_, fun k hk => ?_, fun k hk => ?_, fun k hk => ?_⟩
  · rw [mU_ne _ _ (by omega)]; exact b1 k hk
  · rw [mU_ne _ _ (by omega)]; exact b2 k hk
  · rw [mU_ne _ _ (by omega)]; exact b3 k hk
  · rw [mU_ne _ _ (by omega)]; exact b4 k hk
theorem RelS_f5 {f p w t l N : Nat → Int32} (h : RelS f p w t l N) {x y : Int32} (hx : x = y) : RelS (mU f 5 x) p w t l (mU N 4 y) := by
  obtain ⟨⟨a1, a2, a3, a4, a5, a6, a7, a8, a9⟩, b1, b2, b3, b4⟩ := h
  refine ⟨⟨a1, hx, a3, a4, a5, a6, a7, a8, a9⟩, fun k hk => ?_, fun k hk => ?_, fun k hk => ?_, fun k hk => ?_⟩
  · rw [mU_ne _ _ (by omega)]; exact b1 k hk
  · rw [mU_ne _ _ (by omega)]; exact b2 k hk
  · rw [mU_ne _ _ (by omega)]; exact b3 k hk
  · rw [mU_ne _ _ (by omega)]; exact b4 k hk
theorem RelS_f6 {f p w t l N : Nat → Int32} (h : RelS f p w t l N) {x y : Int32} (hx : x = y + 10) : RelS (mU f 6 x) p w t l (mU N 5 y) := by
  obtain ⟨⟨a1, a2, a3, a4, a5, a6, a7, a8, a9⟩, b1, b2, b3, b4⟩ := h
  refine ⟨⟨a1, a2, hx, a4, a5, a6, a7, a8, a9⟩, fun k hk => ?_, fun k hk => ?_, fun k hk => ?_, fun k hk => ?_⟩
  · rw [mU_ne _ _ (by omega)]; exact b1 k hk
  · rw [mU_ne _ _ (by omega)]; exact b2 k hk
  · rw [mU_ne _ _ (by omega)]; exact b3 k hk
  · rw [mU_ne _ _ (by omega)]; exact b4 k hk
theorem RelS_f7 {f p w t l N : Nat → Int32} (h : RelS f p w t l N) {x y : Int32} (hx : x = y) : RelS (mU f 7 x) p w t l (mU N 6 y) := by
  obtain ⟨⟨a1, a2, a3, a4, a5, a6, a7, a8, a9⟩, b1, b2, b3, b4⟩ := h
  refine ⟨⟨a1, a2, a3, hx, a5, a6, a7, a8, a9⟩, fun k hk => ?_, fun k hk => ?_, fun k hk => ?_, fun k hk => ?_⟩
  · rw [mU_ne _ _ (by omega)]; exact b1 k hk
  · rw [mU_ne _ _ (by omega)]; exact b2 k hk
  · rw [mU_ne _ _ (by omega)]; exact b3 k hk
  · rw [mU_ne _ _ (by omega)]; exact b4 k hk
theorem RelS_f8 {f p w t l N : Nat → Int32} (h : RelS f p w t l N) {x y : Int32} (hx : x = y) : RelS (mU f 8 x) p w t l (mU N 7 y) := by
  obtain ⟨⟨a1, a2, a3, a4, a5, a6, a7, a8, a9⟩, b1, b2, b3, b4⟩ := h
  refine ⟨⟨a1, a2, a3, a4, hx, a6, a7, a8, a9⟩, fun k hk => ?_, fun k hk => ?_, fun k hk => ?_, fun k hk => ?_⟩
  · rw [mU_ne _ _ (by omega)]; exact b1 k hk
  · rw [mU_ne _ _ (by omega)]; exact b2 k hk
  · rw [mU_ne _ _ (by omega)]; exact b3 k hk
  · rw [mU_ne _ _ (by omega)]; exact b4 k hk
theorem RelS_f9 {f p w t l N : Nat → Int32} (h : RelS f p w t l N) {x y : Int32} (hx : x = y) : RelS (mU f 9 x) p w t l (mU N 8 y) := by
  obtain ⟨⟨a1, a2, a3, a4, a5, a6, a7, a8, a9⟩, b1, b2, b3, b4⟩ := h
  refine ⟨⟨a1, a2, a3, a4, a5, hx, a7, a8, a9⟩, fun k hk => ?_, fun k hk => ?_, fun k hk => ?_, fun k hk => ?_⟩
  · rw [mU_ne _ _ (by omega)]; exact b1 k hk
  · rw [mU_ne _ _ (by omega)]; exact b2 k hk
  · rw [mU_ne _ _ (by omega)]; exact b3 k hk
  · rw [mU_ne _ _ (by omega)]; exact b4 k hk
theorem RelS_f10 {f p w t l N : Nat → Int32} (h : RelS f p w t l N) {x y : Int32} (hx : x = y) : RelS (mU f 10 x) p w t l (mU N 0 y) := by
  obtain ⟨⟨a1, a2, a3, a4, a5, a6, a7, a8, a9⟩, b1, b2, b3, b4⟩ := h
  refine ⟨⟨a1, a2, a3, a4, a5, a6, hx, a8, a9⟩, fun k hk => ?_, fun k hk => ?_, fun k hk => ?_, fun k hk => ?_⟩
  · rw [mU_ne _ _ (by omega)]; exact b1 k hk
  · rw [mU_ne _ _ (by omega)]; exact b2 k hk
  · rw [mU_ne _ _ (by omega)]; exact b3 k hk
  · rw [mU_ne _ _ (by omega)]; exact b4 k hk
theorem RelS_f12 {f p w t l N : Nat → Int32} (h : RelS f p w t l N) {x y : Int32} (hx : x = y) : RelS (mU f 12 x) p w t l (mU N 2 y) := by
  obtain ⟨⟨a1, a2, a3, a4, a5, a6, a7, a8, a9⟩, b1, b2, b3, b4⟩ := h
  refine ⟨⟨a1, a2, a3, a4, a5, a6, a7, a8, hx⟩, fun k hk => ?_, fun k hk => ?_, fun k hk => ?_, fun k hk => ?_⟩
  · rw [mU_ne _ _ (by omega)]; exact b1 k hk
  · rw [mU_ne _ _ (by omega)]; exact b2 k hk
  · rw [mU_ne _ _ (by omega)]; exact b3 k hk
  · rw [mU_ne _ _ (by omega)]; exact b4 k hk
theorem RelS_flat {f p w t l N : Nat → Int32} (h : RelS f p w t l N) {k : Nat} (hk : k < 8) (x : Int32) : RelS f p w t (mU l k x) (mU N (9 + k) x) := by
  obtain ⟨⟨a1, a2, a3, a4, a5, a6, a7, a8, a9⟩, b1, b2, b3, b4⟩ := h
  refine ⟨⟨?_, ?_, ?_, ?_, ?_, ?_, ?_, ?_, ?_⟩, fun q hq => ?_, fun q hq => ?_, fun q hq => ?_, fun q hq => ?_⟩
  · rw [mU_ne _ _ (by omega)]; exact a1
  · rw [mU_ne _ _ (by omega)]; exact a2
  · rw [mU_ne _ _ (by omega)]; exact a3
  · rw [mU_ne _ _ (by omega)]; exact a4
  · rw [mU_ne _ _ (by omega)]; exact a5
  · rw [mU_ne _ _ (by omega)]; exact a6
  · rw [mU_ne _ _ (by omega)]; exact a7
  · rw [mU_ne _ _ (by omega)]; exact a8
  · rw [mU_ne _ _ (by omega)]; exact a9
  · by_cases e : q = k
    · rw [e, mU_eq, mU_eq]
    · rw [mU_ne _ _ e, mU_ne _ _ (by omega)]; exact b1 q hq
  · rw [mU_ne _ _ (by omega)]; exact b2 q hq
  · rw [mU_ne _ _ (by omega)]; exact b3 q hq
  · rw [mU_ne _ _ (by omega)]; exact b4 q hq
theorem RelS_played {f p w t l N : Nat → Int32} (h : RelS f p w t l N) {k : Nat} (hk : k < 12) (x : Int32) : RelS f (mU p k x) w t l (mU N (17 + k) x) := by
  obtain ⟨⟨a1, a2, a3, a4, a5, a6, a7, a8, a9⟩, b1, b2, b3, b4⟩ := h
  refine ⟨⟨?_, ?_, ?_, ?_, ?_, ?_, ?_, ?_, ?_⟩, fun q hq => ?_, fun q hq => ?_, fun q hq => ?_, fun q hq => ?_⟩
  · rw [mU_ne _ _ (by omega)]; exact a1
  · rw [mU_ne _ _ (by omega)]; exact a2
  · rw [mU_ne _ _ (by omega)]; exact a3
  · rw [mU_ne _ _ (by omega)]; exact a4
  · rw [mU_ne _ _ (by omega)]; exact a5
  · rw [mU_ne _ _ (by omega)]; exact a6
  · rw [mU_ne _ _ (by omega)]; exact a7
  · rw [mU_ne _ _ (by omega)]; exact a8
  · rw [mU_ne _ _ (by omega)]; exact a9
  · rw [mU_ne _ _ (by omega)]; exact b1 q hq
  · by_cases e : q = k
    · rw [e, mU_eq, mU_eq]
    · rw [mU_ne _ _ e, mU_ne _ _ (by omega)]; exact b2 q hq
  · rw [mU_ne _ _ (by omega)]; exact b3 q hq
  · rw [mU_ne _ _ (by omega)]; exact b4 q hq
theorem RelS_wept {f p w t l N : Nat → Int32} (h : RelS f p w t l N) {k : Nat} (hk : k < 12) (x : Int32) : RelS f p (mU w k x) t l (mU N (29 + k) x) := by
  obtain ⟨⟨a1, a2, a3, a4, a5, a6, a7, a8, a9⟩, b1, b2, b3, b4⟩ := h
  refine ⟨⟨?_, ?_, ?_, ?_, ?_, ?_, ?_, ?_, ?_⟩, fun q hq => ?_, fun q hq => ?_, fun q hq => ?_, fun q hq => ?_⟩
  · rw [mU_ne _ _ (by omega)]; exact a1
  · rw [mU_ne _ _ (by omega)]; exact a2
  · rw [mU_ne _ _ (by omega)]; exact a3
  · rw [mU_ne _ _ (by omega)]; exact a4
  · rw [mU_ne _ _ (by omega)]; exact a5
  · rw [mU_ne _ _ (by omega)]; exact a6
  · rw [mU_ne _ _ (by omega)]; exact a7
  · rw [mU_ne _ _ (by omega)]; exact a8
  · rw [mU_ne _ _ (by omega)]; exact a9
  · rw [mU_ne _ _ (by omega)]; exact b1 q hq
  · rw [mU_ne _ _ (by omega)]; exact b2 q hq
  · by_cases e : q = k
    · rw [e, mU_eq, mU_eq]
    · rw [mU_ne _ _ e, mU_ne _ _ (by omega)]; exact b3 q hq
  · rw [mU_ne _ _ (by omega)]; exact b4 q hq
theorem RelS_tears {f p w t l N : Nat → Int32} (h : RelS f p w t l N) {k : Nat} (hk : k < 6) (x : Int32) : RelS f p w (mU t k x) l (mU N (41 + k) x) := by
  obtain ⟨⟨a1, a2, a3, a4, a5, a6, a7, a8, a9⟩, b1, b2, b3, b4⟩ := h
  refine ⟨⟨?_, ?_, ?_, ?_, ?_, ?_, ?_, ?_, ?_⟩, fun q hq => ?_, fun q hq => ?_, fun q hq => ?_, fun q hq => ?_⟩
  · rw [mU_ne _ _ (by omega)]; exact a1
  · rw [mU_ne _ _ (by omega)]; exact a2
  · rw [mU_ne _ _ (by omega)]; exact a3
  · rw [mU_ne _ _ (by omega)]; exact a4
  · rw [mU_ne _ _ (by omega)]; exact a5
  · rw [mU_ne _ _ (by omega)]; exact a6
  · rw [mU_ne _ _ (by omega)]; exact a7
  · rw [mU_ne _ _ (by omega)]; exact a8
  · rw [mU_ne _ _ (by omega)]; exact a9
  · rw [mU_ne _ _ (by omega)]; exact b1 q hq
  · rw [mU_ne _ _ (by omega)]; exact b2 q hq
  · rw [mU_ne _ _ (by omega)]; exact b3 q hq
  · by_cases e : q = k
    · rw [e, mU_eq, mU_eq]
    · rw [mU_ne _ _ e, mU_ne _ _ (by omega)]; exact b4 q hq
theorem WfS_flat {N : Nat → Int32} {np nq : Int32} (h : WfS N np nq) {k : Nat} {x : Int32} (hk : k < 8) (hx : bd x 50) : WfS (mU N (9 + k) x) np nq := by
  obtain ⟨a, b, c, d⟩ := h
  refine ⟨by rw [mU_ne _ _ (by omega)]; exact a, fun j hj => ?_, fun j hj e => ?_, fun j hj e => by rw [mU_ne _ _ (by omega)]; exact d j hj e⟩
  · by_cases e : j = k
    · rw [e, mU_eq]; exact hx
    · rw [mU_ne _ _ (by omega)]; exact b j hj
  · rw [mU_ne _ _ (by omega), mU_ne _ _ (by omega)]
    exact c j hj e
theorem i32_nle {x y : Int32} : ¬ x ≤ y ↔ y < x := by rw [i32_le, i32_lt]; omega
theorem i32_nlt {x y : Int32} : ¬ x < y ↔ y ≤ x := by rw [i32_le, i32_lt]; omega
theorem isGrade_i {x : Int32} : r0_isGrade x = r10_isIn x 0 9 := rfl
theorem isIn_no {x a b : Int32} (h : r10_isIn x a b = 0) : x < a ∨ b < x := by
  unfold r10_isIn at h
  by_cases c : x < a
  · exact .inl c
  · by_cases d : b < x
    · exact .inr d
    · rw [if_neg c, if_neg d] at h; exact absurd h one_n0
theorem isIn_yes {x a b : Int32} (h : ¬ r10_isIn x a b = 0) : ¬ x < a ∧ ¬ b < x := by
  unfold r10_isIn at h
  by_cases c : x < a
  · rw [if_pos c] at h; exact absurd rfl h
  · by_cases d : b < x
    · rw [if_neg c, if_pos d] at h; exact absurd rfl h
    · exact ⟨c, d⟩
theorem isIn_1 {x a b : Int32} (h : ¬ x < a) (h2 : ¬ b < x) : r10_isIn x a b = 1 := by
  unfold r10_isIn
  rw [if_neg h, if_neg h2]
theorem isIn_0a {x a b : Int32} (h : x < a) : r10_isIn x a b = 0 := if_pos h
theorem isIn_0b {x a b : Int32} (h2 : b < x) : r10_isIn x a b = 0 := by
  unfold r10_isIn
  by_cases h : x < a
  · rw [if_pos h]
  · rw [if_neg h, if_pos h2]
theorem isIn_01 (x a b : Int32) : r10_isIn x a b = 0 ∨ r10_isIn x a b = 1 := by
  unfold r10_isIn
  by_cases h : x < a
  · rw [if_pos h]; exact .inl rfl
  · rw [if_neg h]
    by_cases h2 : b < x
    · rw [if_pos h2]; exact .inl rfl
    · rw [if_neg h2]; exact .inr rfl
theorem hasPiece_01 (I : mI) (x : Int32) : r0_hasPiece I x = 0 ∨ r0_hasPiece I x = 1 := by
  unfold r0_hasPiece
  repeat' split
  all_goals first | exact .inl rfl | exact .inr rfl
theorem hasPlayer_01 (I : mI) (x : Int32) : r0_hasPlayer I x = 0 ∨ r0_hasPlayer I x = 1 := by
  unfold r0_hasPlayer
  repeat' split
  all_goals first | exact .inl rfl | exact .inr rfl
theorem set_fail {I : mI} {s : Nat} (h : Inv I s) {x0 x1 x2 : Int32} (g1 : r9_set I x0 x1 x2 = some (0, I)) (g2 : r10_canSet (mW I 119 0 0) x0 x1 x2 = 0) : ∃ v I1 I2, r9_set I x0 x1 x2 = some (v, I1) ∧ r10_set I1 x0 x1 x2 = some (v, I2) ∧ Inv I2 s := by
  refine ⟨0, I, mW I 119 0 0, g1, ?_, Inv_told 0 h⟩
  unfold r10_set
  rw [if_pos g2]
theorem set_0 {I : mI} {s : Nat} (h : Inv I s) (x1 x2 : Int32) : ∃ v I1 I2, r9_set I 0 x1 x2 = some (v, I1) ∧ r10_set I1 0 x1 x2 = some (v, I2) ∧ Inv I2 s := by
  obtain ⟨np, nq, hp, hq, e1, e2, e3, e4⟩ := RelC_n h.1
  have ei : r10_isPiece (mW I 119 0 0) x1 = r0_hasPiece I x1 := isPiece_e (I := I) (J := mW I 119 0 0) hp e1 e2 x1
  by_cases a : r0_hasPiece I x1 = 0
  · refine set_fail h ?_ ?_
    · simp (decide := true) only [and1_0, and1_1, r9_set, r0_change, a, Option.bind_some, reduceIte]
    · simp (decide := true) only [r10_canSet, ei, a, reduceIte]
  have a1 : r0_hasPiece I x1 = 1 := (hasPiece_01 I x1).resolve_left a
  by_cases b : r10_isIn x2 0 9 = 0
  · refine set_fail h ?_ ?_
    · simp (decide := true) only [and1_0, and1_1, r9_set, r0_change, a1, isGrade_i, b, Option.bind_some, reduceIte]
    · simp (decide := true) only [r10_canSet, ei, a1, b, reduceIte]
  have b1 : r10_isIn x2 0 9 = 1 := (isIn_01 _ _ _).resolve_left b
  obtain ⟨k, hk, rfl⟩ := hasPiece_t hp e1 a
  refine ⟨1, mW (mW I 10 k x2) 77 2 0, mW (mW (mW (mW (mW I 10 k x2) 77 2 0) 119 0 0) 124 k x2) 119 3 0, ?_, ?_, ?_⟩
  · simp (decide := true) only [and1_0, and1_1, r9_set, r0_change, a1, isGrade_i, b1, Option.bind_some, reduceIte, mSto_n (show k < 12 by omega) (show 12 < 2 ^ 31 by decide), r3_forget]
  · have ei2 : r10_isPiece (mW (mW (mW I 10 k x2) 77 2 0) 119 0 0) (nI k) = r0_hasPiece I (nI k) := isPiece_e (I := I) (J := mW (mW (mW I 10 k x2) 77 2 0) 119 0 0) hp e1 e2 (nI k)
    have g : r10_canSet (mW (mW (mW I 10 k x2) 77 2 0) 119 0 0) 0 (nI k) x2 = 1 := by
      simp (decide := true) only [r10_canSet, ei2, a1, b1, reduceIte]
    simp (decide := true) only [r10_set, g, Option.bind_some, reduceIte, mSto_n (show k < 12 by omega) (show 12 < 2 ^ 31 by decide)]
  · obtain ⟨⟨hS, hw⟩, ⟨⟨r1, r2, r3, r4, r5, r6, r7⟩, w1, w2, w3, w4, w5, w6, w7⟩, hP, hK, hL, hLaw, hD, hB⟩ := h.1
    have hb : bd x2 9 := bd_of (by decide) (isIn_yes b).1 (isIn_yes b).2
    refine Inv_U0 h ?_ rfl rfl rfl h.2.2.1 h.2.2.2.1 h.2.2.2.2.1 h.2.2.2.2.2.1
    exact ⟨⟨hS, hw⟩, ⟨⟨r1, r2, r3, eqOn_up r4 _ _, r5, r6, r7⟩, w1, w2, w3, up_all (P := fun x => bd x 9) w4 k hb, w5, w6, w7⟩, hP, hK, hL, hLaw, hD, hB⟩
theorem set_1 {I : mI} {s : Nat} (h : Inv I s) (x1 x2 : Int32) : ∃ v I1 I2, r9_set I 1 x1 x2 = some (v, I1) ∧ r10_set I1 1 x1 x2 = some (v, I2) ∧ Inv I2 s := by
  obtain ⟨np, nq, hp, hq, e1, e2, e3, e4⟩ := RelC_n h.1
  have ei : r10_isPiece (mW I 119 0 0) x1 = r0_hasPiece I x1 := isPiece_e (I := I) (J := mW I 119 0 0) hp e1 e2 x1
  by_cases a : r0_hasPiece I x1 = 0
  · refine set_fail h ?_ ?_
    · simp (decide := true) only [and1_0, and1_1, r9_set, r0_change, a, Option.bind_some, reduceIte]
    · simp (decide := true) only [r10_canSet, ei, a, reduceIte]
  have a1 : r0_hasPiece I x1 = 1 := (hasPiece_01 I x1).resolve_left a
  by_cases b : r10_isIn x2 0 9 = 0
  · refine set_fail h ?_ ?_
    · simp (decide := true) only [and1_0, and1_1, r9_set, r0_change, a1, isGrade_i, b, Option.bind_some, reduceIte]
    · simp (decide := true) only [r10_canSet, ei, a1, b, reduceIte]
  have b1 : r10_isIn x2 0 9 = 1 := (isIn_01 _ _ _).resolve_left b
  obtain ⟨k, hk, rfl⟩ := hasPiece_t hp e1 a
  refine ⟨1, mW (mW I 11 k x2) 77 2 0, mW (mW (mW (mW (mW I 11 k x2) 77 2 0) 119 0 0) 125 k x2) 119 3 0, ?_, ?_, ?_⟩
  · simp (decide := true) only [and1_0, and1_1, r9_set, r0_change, a1, isGrade_i, b1, Option.bind_some, reduceIte, mSto_n (show k < 12 by omega) (show 12 < 2 ^ 31 by decide), r3_forget]
  · have ei2 : r10_isPiece (mW (mW (mW I 11 k x2) 77 2 0) 119 0 0) (nI k) = r0_hasPiece I (nI k) := isPiece_e (I := I) (J := mW (mW (mW I 11 k x2) 77 2 0) 119 0 0) hp e1 e2 (nI k)
    have g : r10_canSet (mW (mW (mW I 11 k x2) 77 2 0) 119 0 0) 1 (nI k) x2 = 1 := by
      simp (decide := true) only [r10_canSet, ei2, a1, b1, reduceIte]
    simp (decide := true) only [r10_set, g, Option.bind_some, reduceIte, mSto_n (show k < 12 by omega) (show 12 < 2 ^ 31 by decide)]
  · obtain ⟨⟨hS, hw⟩, ⟨⟨r1, r2, r3, r4, r5, r6, r7⟩, w1, w2, w3, w4, w5, w6, w7⟩, hP, hK, hL, hLaw, hD, hB⟩ := h.1
    have hb : bd x2 9 := bd_of (by decide) (isIn_yes b).1 (isIn_yes b).2
    refine Inv_U0 h ?_ rfl rfl rfl h.2.2.1 h.2.2.2.1 h.2.2.2.2.1 h.2.2.2.2.2.1
    exact ⟨⟨hS, hw⟩, ⟨⟨r1, r2, r3, r4, eqOn_up r5 _ _, r6, r7⟩, w1, w2, w3, w4, up_all (P := fun x => bd x 9) w5 k hb, w6, w7⟩, hP, hK, hL, hLaw, hD, hB⟩
theorem set_2 {I : mI} {s : Nat} (h : Inv I s) (x1 x2 : Int32) : ∃ v I1 I2, r9_set I 2 x1 x2 = some (v, I1) ∧ r10_set I1 2 x1 x2 = some (v, I2) ∧ Inv I2 s := by
  obtain ⟨np, nq, hp, hq, e1, e2, e3, e4⟩ := RelC_n h.1
  have ei : r10_isPlayer (mW I 119 0 0) x1 = r0_hasPlayer I x1 := isPlayer_e (I := I) (J := mW I 119 0 0) hq e3 e4 x1
  by_cases a : r0_hasPlayer I x1 = 0
  · refine set_fail h ?_ ?_
    · simp (decide := true) only [and1_0, and1_1, r9_set, r0_change, a, Option.bind_some, reduceIte]
    · simp (decide := true) only [r10_canSet, ei, a, reduceIte]
  have a1 : r0_hasPlayer I x1 = 1 := (hasPlayer_01 I x1).resolve_left a
  by_cases b : r10_isIn x2 0 9 = 0
  · refine set_fail h ?_ ?_
    · simp (decide := true) only [and1_0, and1_1, r9_set, r0_change, a1, isGrade_i, b, Option.bind_some, reduceIte]
    · simp (decide := true) only [r10_canSet, ei, a1, b, reduceIte]
  have b1 : r10_isIn x2 0 9 = 1 := (isIn_01 _ _ _).resolve_left b
  obtain ⟨k, hk, rfl⟩ := hasPlayer_t hq e3 a
  refine ⟨1, mW (mW I 12 k x2) 77 2 0, mW (mW (mW (mW (mW I 12 k x2) 77 2 0) 119 0 0) 126 k x2) 119 3 0, ?_, ?_, ?_⟩
  · simp (decide := true) only [and1_0, and1_1, r9_set, r0_change, a1, isGrade_i, b1, Option.bind_some, reduceIte, mSto_n (show k < 6 by omega) (show 6 < 2 ^ 31 by decide), r3_forget]
  · have ei2 : r10_isPlayer (mW (mW (mW I 12 k x2) 77 2 0) 119 0 0) (nI k) = r0_hasPlayer I (nI k) := isPlayer_e (I := I) (J := mW (mW (mW I 12 k x2) 77 2 0) 119 0 0) hq e3 e4 (nI k)
    have g : r10_canSet (mW (mW (mW I 12 k x2) 77 2 0) 119 0 0) 2 (nI k) x2 = 1 := by
      simp (decide := true) only [r10_canSet, ei2, a1, b1, reduceIte]
    simp (decide := true) only [r10_set, g, Option.bind_some, reduceIte, mSto_n (show k < 6 by omega) (show 6 < 2 ^ 31 by decide)]
  · obtain ⟨⟨hS, hw⟩, ⟨⟨r1, r2, r3, r4, r5, r6, r7⟩, w1, w2, w3, w4, w5, w6, w7⟩, hP, hK, hL, hLaw, hD, hB⟩ := h.1
    have hb : bd x2 9 := bd_of (by decide) (isIn_yes b).1 (isIn_yes b).2
    refine Inv_U0 h ?_ rfl rfl rfl h.2.2.1 h.2.2.2.1 h.2.2.2.2.1 h.2.2.2.2.2.1
    exact ⟨⟨hS, hw⟩, ⟨⟨r1, r2, r3, r4, r5, eqOn_up r6 _ _, r7⟩, w1, w2, w3, w4, w5, up_all (P := fun x => bd x 9) w6 k hb, w7⟩, hP, hK, hL, hLaw, hD, hB⟩
theorem set_3 {I : mI} {s : Nat} (h : Inv I s) (x1 x2 : Int32) : ∃ v I1 I2, r9_set I 3 x1 x2 = some (v, I1) ∧ r10_set I1 3 x1 x2 = some (v, I2) ∧ Inv I2 s := by
  obtain ⟨np, nq, hp, hq, e1, e2, e3, e4⟩ := RelC_n h.1
  have ei : r10_isPlayer (mW I 119 0 0) x1 = r0_hasPlayer I x1 := isPlayer_e (I := I) (J := mW I 119 0 0) hq e3 e4 x1
  by_cases a : r0_hasPlayer I x1 = 0
  · refine set_fail h ?_ ?_
    · simp (decide := true) only [and1_0, and1_1, r9_set, r0_change, a, Option.bind_some, reduceIte]
    · simp (decide := true) only [r10_canSet, ei, a, reduceIte]
  have a1 : r0_hasPlayer I x1 = 1 := (hasPlayer_01 I x1).resolve_left a
  by_cases b : r10_isIn x2 0 9 = 0
  · refine set_fail h ?_ ?_
    · simp (decide := true) only [and1_0, and1_1, r9_set, r0_change, a1, isGrade_i, b, Option.bind_some, reduceIte]
    · simp (decide := true) only [r10_canSet, ei, a1, b, reduceIte]
  have b1 : r10_isIn x2 0 9 = 1 := (isIn_01 _ _ _).resolve_left b
  obtain ⟨k, hk, rfl⟩ := hasPlayer_t hq e3 a
  refine ⟨1, mW (mW I 13 k x2) 77 2 0, mW (mW (mW (mW (mW I 13 k x2) 77 2 0) 119 0 0) 127 k x2) 119 3 0, ?_, ?_, ?_⟩
  · simp (decide := true) only [and1_0, and1_1, r9_set, r0_change, a1, isGrade_i, b1, Option.bind_some, reduceIte, mSto_n (show k < 6 by omega) (show 6 < 2 ^ 31 by decide), r3_forget]
  · have ei2 : r10_isPlayer (mW (mW (mW I 13 k x2) 77 2 0) 119 0 0) (nI k) = r0_hasPlayer I (nI k) := isPlayer_e (I := I) (J := mW (mW (mW I 13 k x2) 77 2 0) 119 0 0) hq e3 e4 (nI k)
    have g : r10_canSet (mW (mW (mW I 13 k x2) 77 2 0) 119 0 0) 3 (nI k) x2 = 1 := by
      simp (decide := true) only [r10_canSet, ei2, a1, b1, reduceIte]
    simp (decide := true) only [r10_set, g, Option.bind_some, reduceIte, mSto_n (show k < 6 by omega) (show 6 < 2 ^ 31 by decide)]
  · obtain ⟨⟨hS, hw⟩, ⟨⟨r1, r2, r3, r4, r5, r6, r7⟩, w1, w2, w3, w4, w5, w6, w7⟩, hP, hK, hL, hLaw, hD, hB⟩ := h.1
    have hb : bd x2 9 := bd_of (by decide) (isIn_yes b).1 (isIn_yes b).2
    refine Inv_U0 h ?_ rfl rfl rfl h.2.2.1 h.2.2.2.1 h.2.2.2.2.1 h.2.2.2.2.2.1
    exact ⟨⟨hS, hw⟩, ⟨⟨r1, r2, r3, r4, r5, r6, eqOn_up r7 _ _⟩, w1, w2, w3, w4, w5, w6, up_all (P := fun x => bd x 9) w7 k hb⟩, hP, hK, hL, hLaw, hD, hB⟩
theorem set_4 {I : mI} {s : Nat} (h : Inv I s) (x1 x2 : Int32) : ∃ v I1 I2, r9_set I 4 x1 x2 = some (v, I1) ∧ r10_set I1 4 x1 x2 = some (v, I2) ∧ Inv I2 s := by
  by_cases a : x1 < 0
  · refine set_fail h ?_ ?_
    · by_cases c : 0 ≤ x2 <;> simp (decide := true) only [and1_0, and1_1, r9_set, r7_change, if_pos a, c, Option.bind_some, reduceIte]
    · simp (decide := true) only [r10_canSet, r10_isString, if_pos a, reduceIte]
  by_cases a2 : (8 : Int32) ≤ x1
  · refine set_fail h ?_ ?_
    · by_cases c : 0 ≤ x2 <;> simp (decide := true) only [and1_0, and1_1, r9_set, r7_change, if_neg a, if_pos a2, c, Option.bind_some, reduceIte]
    · simp (decide := true) only [r10_canSet, r10_isString, if_neg a, if_pos a2, reduceIte]
  by_cases b : x2 < 0
  · have b' : ¬ 0 ≤ x2 := i32_nle.mpr b
    refine set_fail h ?_ ?_
    · simp (decide := true) only [and1_0, and1_1, r9_set, r7_change, b', Option.bind_some, reduceIte]
    · simp (decide := true) only [r10_canSet, r10_isString, if_neg a, if_neg a2, isIn_0a b, reduceIte]
  have b' : 0 ≤ x2 := i32_nlt.mp b
  by_cases b2 : (50 : Int32) < x2
  · refine set_fail h ?_ ?_
    · simp (decide := true) only [and1_0, and1_1, r9_set, r7_change, b', if_neg a, if_neg a2, if_pos b2, Option.bind_some, reduceIte]
    · simp (decide := true) only [r10_canSet, r10_isString, if_neg a, if_neg a2, isIn_0b b2, reduceIte]
  obtain ⟨k, hk, rfl⟩ := ix_of (n := 8) a a2 (by decide)
  refine ⟨1, mW (mW I 7 k x2) 77 2 0, mW (mW (mW (mW (mW I 7 k x2) 77 2 0) 119 0 0) 120 (9 + k) x2) 119 3 0, ?_, ?_, ?_⟩
  · simp (decide := true) only [and1_0, and1_1, r9_set, r7_change, b', if_neg a, if_neg a2, if_neg b2, Option.bind_some, reduceIte, mSto_n hk (show 8 < 2 ^ 31 by decide), r3_forget]
  · have g : r10_canSet (mW (mW (mW I 7 k x2) 77 2 0) 119 0 0) 4 (nI k) x2 = 1 := by
      simp (decide := true) only [r10_canSet, r10_isString, if_neg a, if_neg a2, isIn_1 b b2, reduceIte]
    simp (decide := true) only [r10_set, g, Option.bind_some, reduceIte, nI_addl (show (9 : Int32) = nI 9 by decide), mSto_n (show 9 + k < 47 by omega) (show 47 < 2 ^ 31 by decide)]
  · obtain ⟨⟨hS, hw⟩, hC, hP, hK, hL, hLaw, hD, hB⟩ := h.1
    refine Inv_U0 h ?_ rfl rfl rfl h.2.2.1 h.2.2.2.1 h.2.2.2.2.1 h.2.2.2.2.2.1
    exact ⟨⟨RelS_flat hS hk x2, WfS_flat hw hk (bd_of (by decide) b b2)⟩, hC, hP, hK, hL, hLaw, hD, hB⟩
theorem set_5 {I : mI} {s : Nat} (h : Inv I s) (x1 x2 : Int32) : ∃ v I1 I2, r9_set I 5 x1 x2 = some (v, I1) ∧ r10_set I1 5 x1 x2 = some (v, I2) ∧ Inv I2 s := by
  by_cases b : x2 < 0
  · have b' : ¬ 0 ≤ x2 := i32_nle.mpr b
    refine set_fail h ?_ ?_
    · simp (decide := true) only [and1_0, and1_1, r9_set, r7_change, b', Option.bind_some, reduceIte]
    · simp (decide := true) only [r10_canSet, isIn_0a b, reduceIte]
  have b' : 0 ≤ x2 := i32_nlt.mp b
  by_cases b2 : (999 : Int32) < x2
  · refine set_fail h ?_ ?_
    · simp (decide := true) only [and1_0, and1_1, r9_set, r7_change, b', if_pos b2, Option.bind_some, reduceIte]
    · simp (decide := true) only [r10_canSet, isIn_0b b2, reduceIte]
  refine ⟨1, mW (mW I 3 4 x2) 77 2 0, mW (mW (mW (mW (mW I 3 4 x2) 77 2 0) 119 0 0) 120 3 x2) 119 3 0, ?_, ?_, ?_⟩
  · simp (decide := true) only [and1_0, and1_1, r9_set, r7_change, b', if_neg b2, Option.bind_some, reduceIte, r3_forget]
  · have g : r10_canSet (mW (mW (mW I 3 4 x2) 77 2 0) 119 0 0) 5 x1 x2 = 1 := by
      simp (decide := true) only [r10_canSet, isIn_1 b b2, reduceIte]
    simp (decide := true) only [r10_set, g, Option.bind_some, reduceIte]
  · obtain ⟨⟨hS, hw⟩, hC, hP, hK, hL, hLaw, hD, hB⟩ := h.1
    refine Inv_U0 h ?_ rfl rfl rfl h.2.2.1 h.2.2.2.1 h.2.2.2.2.1 h.2.2.2.2.2.1
    exact ⟨⟨RelS_f4 hS rfl, WfS_up hw (by decide) (by decide)⟩, hC, hP, hK, hL, hLaw, hD, hB⟩
theorem set_6 {I : mI} {s : Nat} (h : Inv I s) (x1 x2 : Int32) : ∃ v I1 I2, r9_set I 6 x1 x2 = some (v, I1) ∧ r10_set I1 6 x1 x2 = some (v, I2) ∧ Inv I2 s := by
  by_cases b : x2 < 0
  · have b' : ¬ 0 ≤ x2 := i32_nle.mpr b
    refine set_fail h ?_ ?_
    · simp (decide := true) only [and1_0, and1_1, r9_set, r7_change, b', Option.bind_some, reduceIte]
    · simp (decide := true) only [r10_canSet, isIn_0a b, reduceIte]
  have b' : 0 ≤ x2 := i32_nlt.mp b
  by_cases b2 : (99 : Int32) < x2
  · refine set_fail h ?_ ?_
    · simp (decide := true) only [and1_0, and1_1, r9_set, r7_change, b', if_pos b2, Option.bind_some, reduceIte]
    · simp (decide := true) only [r10_canSet, isIn_0b b2, reduceIte]
  refine ⟨1, mW (mW I 3 6 x2) 77 2 0, mW (mW (mW (mW (mW I 3 6 x2) 77 2 0) 119 0 0) 120 5 (x2 - 10)) 119 3 0, ?_, ?_, ?_⟩
  · simp (decide := true) only [and1_0, and1_1, r9_set, r7_change, b', if_neg b2, Option.bind_some, reduceIte, r3_forget]
  · have g : r10_canSet (mW (mW (mW I 3 6 x2) 77 2 0) 119 0 0) 6 x1 x2 = 1 := by
      simp (decide := true) only [r10_canSet, isIn_1 b b2, reduceIte]
    simp (decide := true) only [r10_set, g, Option.bind_some, reduceIte]
  · obtain ⟨⟨hS, hw⟩, hC, hP, hK, hL, hLaw, hD, hB⟩ := h.1
    refine Inv_U0 h ?_ rfl rfl rfl h.2.2.1 h.2.2.2.1 h.2.2.2.2.1 h.2.2.2.2.2.1
    exact ⟨⟨RelS_f6 hS (Int32.sub_add_cancel x2 10).symm, WfS_up hw (by decide) (by decide)⟩, hC, hP, hK, hL, hLaw, hD, hB⟩
theorem set_7 {I : mI} {s : Nat} (h : Inv I s) (x1 x2 : Int32) : ∃ v I1 I2, r9_set I 7 x1 x2 = some (v, I1) ∧ r10_set I1 7 x1 x2 = some (v, I2) ∧ Inv I2 s := by
  by_cases b : x2 < 0
  · have b' : ¬ 0 ≤ x2 := i32_nle.mpr b
    refine set_fail h ?_ ?_
    · simp (decide := true) only [and1_0, and1_1, r9_set, r7_change, b', Option.bind_some, reduceIte]
    · simp (decide := true) only [r10_canSet, isIn_0a b, reduceIte]
  have b' : 0 ≤ x2 := i32_nlt.mp b
  by_cases b2 : (9 : Int32) < x2
  · refine set_fail h ?_ ?_
    · simp (decide := true) only [and1_0, and1_1, r9_set, r7_change, b', if_pos b2, Option.bind_some, reduceIte]
    · simp (decide := true) only [r10_canSet, isIn_0b b2, reduceIte]
  refine ⟨1, mW (mW I 3 7 x2) 77 2 0, mW (mW (mW (mW (mW I 3 7 x2) 77 2 0) 119 0 0) 120 6 x2) 119 3 0, ?_, ?_, ?_⟩
  · simp (decide := true) only [and1_0, and1_1, r9_set, r7_change, b', if_neg b2, Option.bind_some, reduceIte, r3_forget]
  · have g : r10_canSet (mW (mW (mW I 3 7 x2) 77 2 0) 119 0 0) 7 x1 x2 = 1 := by
      simp (decide := true) only [r10_canSet, isIn_1 b b2, reduceIte]
    simp (decide := true) only [r10_set, g, Option.bind_some, reduceIte]
  · obtain ⟨⟨hS, hw⟩, hC, hP, hK, hL, hLaw, hD, hB⟩ := h.1
    refine Inv_U0 h ?_ rfl rfl rfl h.2.2.1 h.2.2.2.1 h.2.2.2.2.1 h.2.2.2.2.2.1
    exact ⟨⟨RelS_f7 hS rfl, WfS_up hw (by decide) (by decide)⟩, hC, hP, hK, hL, hLaw, hD, hB⟩
theorem op_set : S_set Inv := by
  intro I s h x0 x1 x2
  by_cases q0 : x0 = 0
  · subst q0; exact set_0 h x1 x2
  by_cases q1 : x0 = 1
  · subst q1; exact set_1 h x1 x2
  by_cases q2 : x0 = 2
  · subst q2; exact set_2 h x1 x2
  by_cases q3 : x0 = 3
  · subst q3; exact set_3 h x1 x2
  by_cases q4 : x0 = 4
  · subst q4; exact set_4 h x1 x2
  by_cases q5 : x0 = 5
  · subst q5; exact set_5 h x1 x2
  by_cases q6 : x0 = 6
  · subst q6; exact set_6 h x1 x2
  by_cases q7 : x0 = 7
  · subst q7; exact set_7 h x1 x2
  refine set_fail h ?_ ?_
  · by_cases a : (3 : Int32) < x0
    · by_cases b : (0 : Int32) ≤ x2 <;> simp only [and1_0, and1_1, r9_set, r7_change, if_pos a, b, if_neg q4, if_neg q5, if_neg q6, if_neg q7, Option.bind_some, reduceIte]
    · simp only [and1_0, and1_1, r9_set, r0_change, if_neg a, if_neg q0, if_neg q1, if_neg q2, if_neg q3, Option.bind_some, reduceIte]
  · have g : r10_isIn x0 5 7 = 0 := by
      rcases isIn_01 x0 5 7 with c | c
      · exact c
      · have c2 := isIn_yes (x := x0) (a := 5) (b := 7) (by rw [c]; exact one_n0)
        exfalso
        rw [i32_lt, i32_lt] at c2
        rw [i32_eq] at q5 q6 q7
        simp only [show (5 : Int32).toInt = 5 by decide, show (6 : Int32).toInt = 6 by decide, show (7 : Int32).toInt = 7 by decide] at c2 q5 q6 q7
        omega
    simp only [r10_canSet, if_neg q0, if_neg q1, if_neg q2, if_neg q3, if_neg q4, g, reduceIte]

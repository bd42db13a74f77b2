/-! PLAYING, IN STEP: the stage at s (3: it happens; 35: in thought) -/
def PW (C M : mI) (s : Nat) : Prop := (RelS (C s) (C (s + 1)) (C (s + 2)) (C (s + 3)) (C (s + 4)) (M 120) ∧ WfS (M 120) (M 119 6) (M 119 7)) ∧ (RelC (C 8) (C 9) (C 10) (C 11) (C 12) (C 13) (M 119 6) (M 119 7) (M 123) (M 124) (M 125) (M 126) (M 127) ∧ WfC (M 119 6) (M 119 7) (M 123) (M 124) (M 125) (M 126) (M 127)) ∧ RelLaw (C 15) (C 16) (C 17) (M 131 0) (M 132) (M 133) (M 134) (M 135) (M 136) (M 137) ∧ eqOn 600 (C 34) (M 128) ∧ ((s = 3 ∧ C 1 3 = 1 ∧ M 119 5 = 0) ∨ (s = 35 ∧ C 1 3 = 0 ∧ M 119 5 = 1))
def frC (s : Nat) (C C' : mI) : Prop := ∀ a, ¬ (s ≤ a ∧ a ≤ s + 4) → a ≠ 40 → a ≠ 41 → ¬ (s = 3 ∧ a = 34) → C' a = C a
def frM (M M' : mI) : Prop := ∀ a, a ≠ 120 → a ≠ 128 → a ≠ 142 → a ≠ 143 → M' a = M a
theorem frC_t {s : Nat} {A B C : mI} (h1 : frC s A B) (h2 : frC s B C) : frC s A C := fun a x y z t => (h2 a x y z t).trans (h1 a x y z t)
theorem frM_t {A B C : mI} (h1 : frM A B) (h2 : frM B C) : frM A C := fun a x y z t => (h2 a x y z t).trans (h1 a x y z t)
theorem frC_r (s : Nat) (A : mI) : frC s A A := fun _ _ _ _ _ => rfl
theorem frM_r (A : mI) : frM A A := fun _ _ _ _ _ => rfl
theorem PW_s {C M : mI} {s : Nat} (h : PW C M s) : s = 3 ∨ s = 35 := by
  rcases h.2.2.2.2 with q | q
  · exact .inl q.1
  · exact .inr q.1
theorem PW_n {C M : mI} {s : Nat} (h : PW C M s) : ∃ np nq, np ≤ 12 ∧ nq ≤ 6 ∧ C 8 6 = nI np ∧ M 119 6 = nI np ∧ C 8 7 = nI nq ∧ M 119 7 = nI nq := by
  obtain ⟨⟨a, b, _⟩, ⟨np, hp, ep⟩, ⟨nq, hq, eq⟩, _⟩ := h.2.1
  exact ⟨np, nq, hp, hq, by rw [a, ep], ep, by rw [b, eq], eq⟩
theorem PW_scr {C M C' M' : mI} {s : Nat} (h : PW C M s) (hC : ∀ a, a ≠ 40 → a ≠ 41 → C' a = C a) (hM : ∀ a, a ≠ 142 → a ≠ 143 → M' a = M a) : PW C' M' s := by
  have hs := PW_s h
  unfold PW at *
  rw [hC s (by omega) (by omega), hC (s + 1) (by omega) (by omega), hC (s + 2) (by omega) (by omega), hC (s + 3) (by omega) (by omega), hC (s + 4) (by omega) (by omega), hC 8 (by decide) (by decide), hC 9 (by decide) (by decide), hC 10 (by decide) (by decide), hC 11 (by decide) (by decide), hC 12 (by decide) (by decide), hC 13 (by decide) (by decide), hC 15 (by decide) (by decide), hC 16 (by decide) (by decide), hC 17 (by decide) (by decide), hC 34 (by decide) (by decide), hC 1 (by decide) (by decide), hM 120 (by decide) (by decide), hM 119 (by decide) (by decide), hM 123 (by decide) (by decide), hM 124 (by decide) (by decide), hM 125 (by decide) (by decide), hM 126 (by decide) (by decide), hM 127 (by decide) (by decide), hM 131 (by decide) (by decide), hM 132 (by decide) (by decide), hM 133 (by decide) (by decide), hM 134 (by decide) (by decide), hM 135 (by decide) (by decide), hM 136 (by decide) (by decide), hM 137 (by decide) (by decide), hM 128 (by decide) (by decide)]
  exact h
theorem frC_mW {s : Nat} {C : mI} {i : Nat} {x : Int32} (k : Nat) (hk : k ≤ 4) : frC s C (mW C (s + k) i x) := fun a h1 _ _ _ => mW_ne _ _ _ (by omega)
theorem frC_mW0 {s : Nat} {C : mI} {i : Nat} {x : Int32} : frC s C (mW C s i x) := fun a h1 _ _ _ => mW_ne _ _ _ (by omega)
theorem frM_mW {M : mI} {i : Nat} {x : Int32} : frM M (mW M 120 i x) := fun a h1 _ _ _ => mW_ne _ _ _ (by omega)
theorem PW_f4 {C M : mI} {s : Nat} (h : PW C M s) {x y : Int32} (hx : x = y) : PW (mW C s 4 x) (mW M 120 3 y) s := by
  obtain ⟨⟨hS, hw⟩, hC, hL, hB, hm⟩ := h
  rcases hm with ⟨rfl, m1, m2⟩ | ⟨rfl, m1, m2⟩
  · exact ⟨⟨RelS_f4 hS hx, WfS_up hw (by decide) (by decide)⟩, hC, hL, hB, .inl ⟨rfl, m1, m2⟩⟩
  · exact ⟨⟨RelS_f4 hS hx, WfS_up hw (by decide) (by decide)⟩, hC, hL, hB, .inr ⟨rfl, m1, m2⟩⟩
theorem PW_f5 {C M : mI} {s : Nat} (h : PW C M s) {x y : Int32} (hx : x = y) : PW (mW C s 5 x) (mW M 120 4 y) s := by
  obtain ⟨⟨hS, hw⟩, hC, hL, hB, hm⟩ := h
  rcases hm with ⟨rfl, m1, m2⟩ | ⟨rfl, m1, m2⟩
  · exact ⟨⟨RelS_f5 hS hx, WfS_up hw (by decide) (by decide)⟩, hC, hL, hB, .inl ⟨rfl, m1, m2⟩⟩
  · exact ⟨⟨RelS_f5 hS hx, WfS_up hw (by decide) (by decide)⟩, hC, hL, hB, .inr ⟨rfl, m1, m2⟩⟩
theorem PW_f6 {C M : mI} {s : Nat} (h : PW C M s) {x y : Int32} (hx : x = y + 10) : PW (mW C s 6 x) (mW M 120 5 y) s := by
  obtain ⟨⟨hS, hw⟩, hC, hL, hB, hm⟩ := h
  rcases hm with ⟨rfl, m1, m2⟩ | ⟨rfl, m1, m2⟩
  · exact ⟨⟨RelS_f6 hS hx, WfS_up hw (by decide) (by decide)⟩, hC, hL, hB, .inl ⟨rfl, m1, m2⟩⟩
  · exact ⟨⟨RelS_f6 hS hx, WfS_up hw (by decide) (by decide)⟩, hC, hL, hB, .inr ⟨rfl, m1, m2⟩⟩
theorem PW_f7 {C M : mI} {s : Nat} (h : PW C M s) {x y : Int32} (hx : x = y) : PW (mW C s 7 x) (mW M 120 6 y) s := by
  obtain ⟨⟨hS, hw⟩, hC, hL, hB, hm⟩ := h
  rcases hm with ⟨rfl, m1, m2⟩ | ⟨rfl, m1, m2⟩
  · exact ⟨⟨RelS_f7 hS hx, WfS_up hw (by decide) (by decide)⟩, hC, hL, hB, .inl ⟨rfl, m1, m2⟩⟩
  · exact ⟨⟨RelS_f7 hS hx, WfS_up hw (by decide) (by decide)⟩, hC, hL, hB, .inr ⟨rfl, m1, m2⟩⟩
theorem PW_f8 {C M : mI} {s : Nat} (h : PW C M s) {x y : Int32} (hx : x = y) : PW (mW C s 8 x) (mW M 120 7 y) s := by
  obtain ⟨⟨hS, hw⟩, hC, hL, hB, hm⟩ := h
  rcases hm with ⟨rfl, m1, m2⟩ | ⟨rfl, m1, m2⟩
  · exact ⟨⟨RelS_f8 hS hx, WfS_up hw (by decide) (by decide)⟩, hC, hL, hB, .inl ⟨rfl, m1, m2⟩⟩
  · exact ⟨⟨RelS_f8 hS hx, WfS_up hw (by decide) (by decide)⟩, hC, hL, hB, .inr ⟨rfl, m1, m2⟩⟩
theorem PW_f9 {C M : mI} {s : Nat} (h : PW C M s) {x y : Int32} (hx : x = y) : PW (mW C s 9 x) (mW M 120 8 y) s := by
  obtain ⟨⟨hS, hw⟩, hC, hL, hB, hm⟩ := h
  rcases hm with ⟨rfl, m1, m2⟩ | ⟨rfl, m1, m2⟩
  · exact ⟨⟨RelS_f9 hS hx, WfS_up hw (by decide) (by decide)⟩, hC, hL, hB, .inl ⟨rfl, m1, m2⟩⟩
  · exact ⟨⟨RelS_f9 hS hx, WfS_up hw (by decide) (by decide)⟩, hC, hL, hB, .inr ⟨rfl, m1, m2⟩⟩
theorem PW_f10 {C M : mI} {s : Nat} (h : PW C M s) {x y : Int32} (hx : x = y) : PW (mW C s 10 x) (mW M 120 0 y) s := by
  obtain ⟨⟨hS, hw⟩, hC, hL, hB, hm⟩ := h
  rcases hm with ⟨rfl, m1, m2⟩ | ⟨rfl, m1, m2⟩
  · exact ⟨⟨RelS_f10 hS hx, WfS_up hw (by decide) (by decide)⟩, hC, hL, hB, .inl ⟨rfl, m1, m2⟩⟩
  · exact ⟨⟨RelS_f10 hS hx, WfS_up hw (by decide) (by decide)⟩, hC, hL, hB, .inr ⟨rfl, m1, m2⟩⟩
theorem PW_f11 {C M : mI} {s : Nat} (h : PW C M s) {x y : Int32} (hx : x = y) : PW (mW C s 11 x) (mW M 120 1 y) s := by
  obtain ⟨⟨hS, hw⟩, hC, hL, hB, hm⟩ := h
  rcases hm with ⟨rfl, m1, m2⟩ | ⟨rfl, m1, m2⟩
  · exact ⟨⟨(by subst hx; exact RelS_draw hS _), WfS_up hw (by decide) (by decide)⟩, hC, hL, hB, .inl ⟨rfl, m1, m2⟩⟩
  · exact ⟨⟨(by subst hx; exact RelS_draw hS _), WfS_up hw (by decide) (by decide)⟩, hC, hL, hB, .inr ⟨rfl, m1, m2⟩⟩
theorem WfS_played {N : Nat → Int32} {np nq : Int32} (h : WfS N np nq) {k : Nat} {x : Int32} (hk : k < 12) (hn : ¬ np ≤ nI k) : WfS (mU N (17 + k) x) np nq := by
  obtain ⟨a, b, c, d⟩ := h
  refine ⟨by rw [mU_ne _ _ (by omega)]; exact a, fun j hj => by rw [mU_ne _ _ (by omega)]; exact b j hj, fun j hj e => ?_, fun j hj e => by rw [mU_ne _ _ (by omega)]; exact d j hj e⟩
  have hjk : j ≠ k := fun q => hn (q ▸ e)
  rw [mU_ne _ _ (by omega), mU_ne _ _ (by omega)]
  exact c j hj e
theorem WfS_wept {N : Nat → Int32} {np nq : Int32} (h : WfS N np nq) {k : Nat} {x : Int32} (hk : k < 12) (hn : ¬ np ≤ nI k) : WfS (mU N (29 + k) x) np nq := by
  obtain ⟨a, b, c, d⟩ := h
  refine ⟨by rw [mU_ne _ _ (by omega)]; exact a, fun j hj => by rw [mU_ne _ _ (by omega)]; exact b j hj, fun j hj e => ?_, fun j hj e => by rw [mU_ne _ _ (by omega)]; exact d j hj e⟩
  have hjk : j ≠ k := fun q => hn (q ▸ e)
  rw [mU_ne _ _ (by omega), mU_ne _ _ (by omega)]
  exact c j hj e
theorem WfS_tears {N : Nat → Int32} {np nq : Int32} (h : WfS N np nq) {k : Nat} {x : Int32} (hk : k < 6) (hn : ¬ nq ≤ nI k) : WfS (mU N (41 + k) x) np nq := by
  obtain ⟨a, b, c, d⟩ := h
  refine ⟨by rw [mU_ne _ _ (by omega)]; exact a, fun j hj => by rw [mU_ne _ _ (by omega)]; exact b j hj, fun j hj e => ?_, fun j hj e => ?_⟩
  · rw [mU_ne _ _ (by omega), mU_ne _ _ (by omega)]
    exact c j hj e
  · have hjk : j ≠ k := fun q => hn (q ▸ e)
    rw [mU_ne _ _ (by omega)]; exact d j hj e
theorem PW_flat {C M : mI} {s : Nat} (h : PW C M s) {k : Nat} {x : Int32} (hk : k < 8) (hx : bd x 50) : PW (mW C (s + 4) k x) (mW M 120 (9 + k) x) s := by
  obtain ⟨⟨hS, hw⟩, hC, hL, hB, hm⟩ := h
  rcases hm with ⟨rfl, m1, m2⟩ | ⟨rfl, m1, m2⟩
  · exact ⟨⟨RelS_flat hS hk x, WfS_flat hw hk hx⟩, hC, hL, hB, .inl ⟨rfl, m1, m2⟩⟩
  · exact ⟨⟨RelS_flat hS hk x, WfS_flat hw hk hx⟩, hC, hL, hB, .inr ⟨rfl, m1, m2⟩⟩
theorem PW_played {C M : mI} {s : Nat} (h : PW C M s) {k : Nat} {x : Int32} (hk : k < 12) (hn : ¬ M 119 6 ≤ nI k) : PW (mW C (s + 1) k x) (mW M 120 (17 + k) x) s := by
  obtain ⟨⟨hS, hw⟩, hC, hL, hB, hm⟩ := h
  rcases hm with ⟨rfl, m1, m2⟩ | ⟨rfl, m1, m2⟩
  · exact ⟨⟨RelS_played hS hk x, WfS_played hw hk hn⟩, hC, hL, hB, .inl ⟨rfl, m1, m2⟩⟩
  · exact ⟨⟨RelS_played hS hk x, WfS_played hw hk hn⟩, hC, hL, hB, .inr ⟨rfl, m1, m2⟩⟩
theorem PW_wept {C M : mI} {s : Nat} (h : PW C M s) {k : Nat} {x : Int32} (hk : k < 12) (hn : ¬ M 119 6 ≤ nI k) : PW (mW C (s + 2) k x) (mW M 120 (29 + k) x) s := by
  obtain ⟨⟨hS, hw⟩, hC, hL, hB, hm⟩ := h
  rcases hm with ⟨rfl, m1, m2⟩ | ⟨rfl, m1, m2⟩
  · exact ⟨⟨RelS_wept hS hk x, WfS_wept hw hk hn⟩, hC, hL, hB, .inl ⟨rfl, m1, m2⟩⟩
  · exact ⟨⟨RelS_wept hS hk x, WfS_wept hw hk hn⟩, hC, hL, hB, .inr ⟨rfl, m1, m2⟩⟩
theorem PW_tears {C M : mI} {s : Nat} (h : PW C M s) {k : Nat} {x : Int32} (hk : k < 6) (hn : ¬ M 119 7 ≤ nI k) : PW (mW C (s + 3) k x) (mW M 120 (41 + k) x) s := by
  obtain ⟨⟨hS, hw⟩, hC, hL, hB, hm⟩ := h
  rcases hm with ⟨rfl, m1, m2⟩ | ⟨rfl, m1, m2⟩
  · exact ⟨⟨RelS_tears hS hk x, WfS_tears hw hk hn⟩, hC, hL, hB, .inl ⟨rfl, m1, m2⟩⟩
  · exact ⟨⟨RelS_tears hS hk x, WfS_tears hw hk hn⟩, hC, hL, hB, .inr ⟨rfl, m1, m2⟩⟩
/-- a line of the book -/
theorem note_e {C M : mI} {s : Nat} (h : PW C M s) (x0 x1 x2 : Int32) : ∃ C' M', r5_note C x0 x1 x2 = some C' ∧ r10_notes M x0 x1 x2 = some M' ∧ PW C' M' s ∧ frC s C C' ∧ frM M M' ∧ C' 40 = C 40 ∧ (∀ k, k ≠ 2 → M' 120 k = M 120 k) := by
  obtain ⟨⟨hS, hw⟩, hC, hL, hB, hm⟩ := h
  have hall : PW C M s := ⟨⟨hS, hw⟩, hC, hL, hB, hm⟩
  rcases hm with ⟨rfl, m1, m2⟩ | ⟨rfl, m1, m2⟩
  · obtain ⟨L, hLn, eL⟩ := hw.1
    have eC : C 3 12 = nI L := by rw [hS.1.2.2.2.2.2.2.2.2, eL]
    unfold r5_note r8_note r10_notes
    rw [m1, m2, if_neg one_n0, if_pos rfl, eC, eL, show (4 : Int32) = nI 4 from rfl, nI_mul, nI_mul, nI_add, if_neg (nI_pos (by omega))]
    by_cases z : L = 150
    · subst z
      rw [if_pos (by decide), if_pos (by decide), Option.bind_some, Option.bind_some, Option.bind_some]
      exact ⟨C, M, rfl, rfl, hall, frC_r _ _, frM_r _, rfl, fun _ _ => rfl⟩
    · rw [if_neg (show ¬ (600 : Int32) < nI (L * 4 + 4) from nI_nlt (a := 600) (by omega) (by decide)), if_neg (show ¬ nI L = 150 by rw [nI_eqk 150 150 rfl (by decide) (by omega)]; exact z)]
      rw [show (1 : Int32) = nI 1 from rfl, show (2 : Int32) = nI 2 from rfl, show (3 : Int32) = nI 3 from rfl]
      simp only [nI_add, mSto_n (show L * 4 < 600 by omega) (show 600 < 2 ^ 31 by decide), mSto_n (show L * 4 + 1 < 600 by omega) (show 600 < 2 ^ 31 by decide), mSto_n (show L * 4 + 2 < 600 by omega) (show 600 < 2 ^ 31 by decide), mSto_n (show L * 4 + 3 < 600 by omega) (show 600 < 2 ^ 31 by decide), mSto_n (show 4 * L < 600 by omega) (show 600 < 2 ^ 31 by decide), mSto_n (show 4 * L + 1 < 600 by omega) (show 600 < 2 ^ 31 by decide), mSto_n (show 4 * L + 2 < 600 by omega) (show 600 < 2 ^ 31 by decide), mSto_n (show 4 * L + 3 < 600 by omega) (show 600 < 2 ^ 31 by decide), Option.bind_some, mW_rd, Nat.reduceEqDiff, reduceIte, eC, eL, Nat.mul_comm L 4]
      refine ⟨_, _, rfl, rfl, ?_, ?_, ?_, rfl, ?_⟩
      · refine ⟨⟨?_, ?_⟩, hC, hL, ?_, .inl ⟨rfl, m1, m2⟩⟩
        · exact RelS_f12 hS rfl
        · obtain ⟨_, b, c, d⟩ := hw
          refine ⟨⟨L + 1, by omega, ?_⟩, fun j hj => ?_, fun j hj e => ?_, fun j hj e => ?_⟩
          · show nI (L + 1) = nI (L + 1)
            rfl
          · rw [mW_row, mU_ne _ _ (by omega)]; exact b j hj
          · rw [mW_row, mU_ne _ _ (by omega), mU_ne _ _ (by omega)]; exact c j hj e
          · rw [mW_row, mU_ne _ _ (by omega)]; exact d j hj e
        · have e10 : C 3 10 = M 120 0 := hS.1.2.2.2.2.2.2.1
          show eqOn 600 (mU (mU (mU (mU (C 34) (4 * L) (C 3 10)) (4 * L + 1) x0) (4 * L + 2) x1) (4 * L + 3) x2) (mU (mU (mU (mU (M 128) (4 * L) (M 120 0)) (4 * L + 1) x0) (4 * L + 2) x1) (4 * L + 3) x2)
          rw [e10]
          exact eqOn_up (eqOn_up (eqOn_up (eqOn_up hB _ _) _ _) _ _) _ _
      · intro a h1 h2 h3 h4
        rw [mW_ne _ _ _ (by omega), mW_ne _ _ _ (by omega), mW_ne _ _ _ (by omega), mW_ne _ _ _ (by omega), mW_ne _ _ _ (by omega)]
      · intro a h1 h2 h3 h4
        rw [mW_ne _ _ _ (by omega), mW_ne _ _ _ (by omega), mW_ne _ _ _ (by omega), mW_ne _ _ _ (by omega), mW_ne _ _ _ (by omega)]
      · intro k hk
        rw [mW_off _ _ hk, mW_ne _ _ _ (by decide), mW_ne _ _ _ (by decide), mW_ne _ _ _ (by decide), mW_ne _ _ _ (by decide)]
  · refine ⟨C, M, ?_, ?_, hall, frC_r _ _, frM_r _, rfl, fun _ _ => rfl⟩
    · unfold r5_note
      rw [m1, if_pos rfl, Option.bind_some]
    · unfold r10_notes
      rw [m2, if_neg one_n0]
/-- the values but the string's -/
def VR0 (V : Nat → Int32) (M : mI) (p q : Nat) : Prop := V 0 = M 124 q ∧ V 1 = M 125 q ∧ V 2 = M 126 p ∧ V 3 = M 127 p ∧ V 8 = M 120 6 ∧ V 10 = M 120 (17 + q) ∧ V 11 = M 120 0
theorem min_bd {m : Nat} (hm : m ≤ 50) : bd (mMin 50 (nI m + 1)) 50 := by
  rw [nI_1]
  unfold mMin
  by_cases z : m + 1 < 50
  · rw [if_pos (show nI (m + 1) < (50 : Int32) from nI_lt (b := 50) z (by decide))]; exact ⟨m + 1, by omega, rfl⟩
  · rw [if_neg (show ¬ nI (m + 1) < (50 : Int32) from nI_nlt (b := 50) (by omega) (by omega))]; exact ⟨50, by omega, rfl⟩
theorem draw_e {C M : mI} {s : Nat} (es : C s 11 = M 120 1) : ∃ z D, r7_drawBelow C s 1000 = some (z, mW C s 11 D) ∧ r10_draw M 1000 = some (z, mW M 120 1 D) := by
  generalize hx : C s 11 = x at es
  refine ⟨mRm (mUsh (1664525 * x + 1013904223) 8) 1000, 1664525 * x + 1013904223, ?_, ?_⟩
  · unfold r7_drawBelow mRemO
    rw [if_neg (show ¬ (1000 : Int32) ≤ 0 by decide), if_neg (show ¬ (1000 : Int32) = 0 by decide), hx, Option.bind_some, Option.bind_some]
  · unfold r10_draw mRemO
    rw [if_neg (show ¬ (1000 : Int32) = 0 by decide), ← es, Option.bind_some]
/-- one string -/
theorem damp_step {C M : mI} {s p q k : Nat} (h : PW C M s) (hp : p < 6) (hq : q < 12) (hk : k < 8) (hV : VR0 (C 40) M p q) : ∃ C' M', (∀ f, l5_dampStrings_2 s (f + 1) (nI k) C = l5_dampStrings_2 s f (nI (k + 1)) C') ∧ r10_goesFlat M (nI p) (nI q) (nI k) (C 40 9) = some M' ∧ PW C' M' s ∧ frC s C C' ∧ frM M M' ∧ VR0 (C' 40) M' p q ∧ C' 40 9 = C 40 9 := by
  have hs := PW_s h
  have e8 : ¬ (8 : Int32) ≤ nI k := nI_ge (b := 8) hk (by decide)
  have hS := h.1.1
  have ef : C (s + 4) k = M 120 (9 + k) := hS.2.1 k hk
  obtain ⟨v0, v1, v2, v3, v8, v10, v11⟩ := hV
  have r40 : (mW (mW C 40 7 (nI k)) 40 6 (C (s + 4) k)) 40 = mU (mU (C 40) 7 (nI k)) 6 (C (s + 4) k) := by rw [mW_row, mW_row]
  have hs' : ∀ a, a ≠ 40 → (mW (mW C 40 7 (nI k)) 40 6 (C (s + 4) k)) a = C a := fun a ha => by rw [mW_ne _ _ _ ha, mW_ne _ _ _ ha]
  obtain ⟨v, H, H', V, A, bv, g1, hV2, V9, g2⟩ := damps_e (C := mW (mW C 40 7 (nI k)) 40 6 (C (s + 4) k)) (M := M) (s := s) (p := p) (q := q) (st := k) hs hp hq hk (by rw [hs' 15 (by decide), hs' 16 (by decide), hs' 17 (by decide)]; exact h.2.2.1) (by rw [hs' s (by omega)]; exact hS.1.1) (by rw [hs' s (by omega)]; exact hS.1.2.1) (by
    rw [r40]
    exact ⟨v0, v1, v2, v3, ef, rfl, v8, v10, v11⟩)
  rw [r40] at V9
  have V9' : V 9 = C 40 9 := V9
  have g2' : r10_dampsOf M (nI p) (nI q) (nI k) (C 40 9) = some (v, mU (mU M 142 A) 143 H') := by
    rw [r40] at g2
    exact g2
  have hC2 : ∀ a, a ≠ 40 → a ≠ 41 → (mU (mU (mW (mW C 40 7 (nI k)) 40 6 (C (s + 4) k)) 40 V) 41 H) a = C a := fun a h1 h2 => by rw [mU_ne _ _ h2, mU_ne _ _ h1, hs' a h1]
  have hM2 : ∀ a, a ≠ 142 → a ≠ 143 → (mU (mU M 142 A) 143 H') a = M a := fun a h1 h2 => by rw [mU_ne _ _ h2, mU_ne _ _ h1]
  have c40 : (mU (mU (mW (mW C 40 7 (nI k)) 40 6 (C (s + 4) k)) 40 V) 41 H) 40 = V := by rw [mU_ne _ _ (by decide), mU_eq]
  generalize hCd : mU (mU (mW (mW C 40 7 (nI k)) 40 6 (C (s + 4) k)) 40 V) 41 H = C2 at *
  generalize hMd : mU (mU M 142 A) 143 H' = M2 at *
  have P2 : PW C2 M2 s := PW_scr h hC2 hM2
  have F2 : frC s C C2 := fun a _ b c _ => hC2 a b c
  have G2 : frM M M2 := fun a _ _ b c => hM2 a b c
  have W2 : VR0 V M2 p q := by
    obtain ⟨u0, u1, u2, u3, u6, u7, u8, u10, u11⟩ := hV2
    unfold VR0
    rw [hM2 124 (by decide) (by decide), hM2 125 (by decide) (by decide), hM2 126 (by decide) (by decide), hM2 127 (by decide) (by decide), hM2 120 (by decide) (by decide)]
    exact ⟨u0, u1, u2, u3, u8, u10, u11⟩
  have ld : mLd (mW C 40 7 (nI k)) (s + 4) 8 (nI k) = some (C (s + 4) k) := by
    rw [mLd_n hk (by decide), mW_ne _ _ _ (show s + 4 ≠ 40 by omega)]
  obtain ⟨n, hn, rfl⟩ := bv
  -- what falls
  have fin : ∀ (z : Int32) (C3 M3 : mI), (z = 0 ∨ z = 1) → PW C3 M3 s → frC s C C3 → frM M M3 → VR0 (C3 40) M3 p q → C3 40 9 = C 40 9 → (∀ f, l5_dampStrings_2 s (f + 1) (nI k) C = ((if z = 0 then some C3 else (r7_flatten C3 s (nI k)).bind fun z5 => some z5 : Option mI).bind fun z4 => l5_dampStrings_2 s f (nI (k + 1)) z4)) → r10_goesFlat M (nI p) (nI q) (nI k) (C 40 9) = ((if z = 0 then some M3 else (mLd M3 120 47 (9 + nI k)).bind fun z4 => (mSto M3 120 47 (9 + nI k) (r10_lesser 50 (z4 + 1))).bind fun z5 => some z5 : Option mI).bind fun z3 => some z3) → ∃ C' M', (∀ f, l5_dampStrings_2 s (f + 1) (nI k) C = l5_dampStrings_2 s f (nI (k + 1)) C') ∧ r10_goesFlat M (nI p) (nI q) (nI k) (C 40 9) = some M' ∧ PW C' M' s ∧ frC s C C' ∧ frM M M' ∧ VR0 (C' 40) M' p q ∧ C' 40 9 = C 40 9 := by
    intro z C3 M3 hz P3 F3 G3 W3 N3 eC eM
    rcases hz with rfl | rfl
    · refine ⟨C3, M3, fun f => ?_, ?_, P3, F3, G3, W3, N3⟩
      · rw [eC, if_pos rfl, Option.bind_some]
      · rw [eM, if_pos rfl, Option.bind_some]
    · obtain ⟨m, hm, em⟩ := P3.1.2.2.1 k hk
      have ec3 : C3 (s + 4) k = nI m := by rw [P3.1.1.2.1 k hk, em]
      refine ⟨mW C3 (s + 4) k (mMin 50 (nI m + 1)), mW M3 120 (9 + k) (mMin 50 (nI m + 1)), fun f => ?_, ?_, PW_flat P3 hk (min_bd hm), frC_t F3 (frC_mW 4 (by decide)), frM_t G3 frM_mW, ?_, ?_⟩
      · rw [eC, if_neg one_n0]
        unfold r7_flatten
        rw [if_neg (nI_pos (by omega)), if_neg e8, mLd_n hk (by decide), Option.bind_some, ec3, mSto_n hk (by decide), Option.bind_some, Option.bind_some, Option.bind_some, Option.bind_some]
      · rw [eM, if_neg one_n0, nI_addl (show (9 : Int32) = nI 9 by decide), mLd_n (by omega) (by decide), Option.bind_some, em, lesser_min, mSto_n (by omega) (by decide), Option.bind_some, Option.bind_some]
      · obtain ⟨u0, u1, u2, u3, u8, u10, u11⟩ := W3
        unfold VR0
        rw [mW_ne _ _ _ (show (40 : Nat) ≠ s + 4 by omega), mW_ne _ _ _ (show (124 : Nat) ≠ 120 by decide), mW_ne _ _ _ (show (125 : Nat) ≠ 120 by decide), mW_ne _ _ _ (show (126 : Nat) ≠ 120 by decide), mW_ne _ _ _ (show (127 : Nat) ≠ 120 by decide), mW_off _ _ (show 6 ≠ 9 + k by omega), mW_off _ _ (show 17 + q ≠ 9 + k by omega), mW_off _ _ (show 0 ≠ 9 + k by omega)]
        exact ⟨u0, u1, u2, u3, u8, u10, u11⟩
      · rw [mW_ne _ _ _ (show (40 : Nat) ≠ s + 4 by omega)]; exact N3
  have W2' : VR0 (C2 40) M2 p q := by rw [c40]; exact W2
  have N2 : C2 40 9 = C 40 9 := by rw [c40]; exact V9'
  rcases P2.2.2.2.2 with ⟨s3, m1, m2⟩ | ⟨s3, m1, m2⟩
  · by_cases z : nI n ≤ 0
    · refine fin 0 C2 M2 (.inl rfl) P2 F2 G2 W2' N2 (fun f => ?_) ?_
      · rw [l5_dampStrings_2, if_neg e8, ld, Option.bind_some, g1, Option.bind_some]
        simp only [m1, if_neg one_n0, if_pos z, Option.bind_some, nI_1]
      · unfold r10_goesFlat
        rw [g2', Option.bind_some]
        simp only [m2, reduceIte, if_pos z, Option.bind_some]
    · have es : C2 s 11 = M2 120 1 := P2.1.1.1.2.2.2.2.2.2.2.1
      obtain ⟨zz, D, d1, d2⟩ := draw_e (M := M2) es
      refine fin (if nI n ≤ zz then 0 else 1) (mW C2 s 11 D) (mW M2 120 1 D) (by split <;> simp) (PW_f11 P2 rfl) (frC_t F2 frC_mW0) (frM_t G2 frM_mW) ?_ ?_ (fun f => ?_) ?_
      · obtain ⟨u0, u1, u2, u3, u8, u10, u11⟩ := W2'
        unfold VR0
        rw [mW_ne _ _ _ (show (40 : Nat) ≠ s by omega), mW_ne _ _ _ (show (124 : Nat) ≠ 120 by decide), mW_ne _ _ _ (show (125 : Nat) ≠ 120 by decide), mW_ne _ _ _ (show (126 : Nat) ≠ 120 by decide), mW_ne _ _ _ (show (127 : Nat) ≠ 120 by decide), mW_off _ _ (show 6 ≠ 1 by omega), mW_off _ _ (show 17 + q ≠ 1 by omega), mW_off _ _ (show 0 ≠ 1 by omega)]
        exact ⟨u0, u1, u2, u3, u8, u10, u11⟩
      · rw [mW_ne _ _ _ (show (40 : Nat) ≠ s by omega)]; exact N2
      · rw [l5_dampStrings_2, if_neg e8, ld, Option.bind_some, g1, Option.bind_some]
        simp only [m1, if_neg one_n0, if_neg z, d1, Option.bind_some, nI_1]
        by_cases y : nI n ≤ zz
        · simp only [if_pos y, Option.bind_some, reduceIte]
        · simp only [if_neg y, Option.bind_some]
      · unfold r10_goesFlat
        rw [g2', Option.bind_some]
        simp only [m2, reduceIte, if_neg z, d2, Option.bind_some]
        by_cases y : nI n ≤ zz
        · simp only [if_pos y, Option.bind_some, reduceIte]
        · simp only [if_neg y, Option.bind_some]
  · have e2 : (2 : Int32) * nI n = nI (2 * n) := nI_mul 2 n
    have iff : nI n < 500 ↔ nI (2 * n) < 1000 := by
      rw [nI_ltk 500 500 rfl (by decide) (by omega), nI_ltk 1000 1000 rfl (by decide) (by omega)]
      omega
    refine fin (if nI n < 500 then 0 else 1) C2 M2 (by split <;> simp) P2 F2 G2 W2' N2 (fun f => ?_) ?_
    · rw [l5_dampStrings_2, if_neg e8, ld, Option.bind_some, g1, Option.bind_some]
      simp only [m1, reduceIte, nI_1]
      by_cases y : nI n < 500
      · simp only [if_pos y, Option.bind_some, reduceIte]
      · simp only [if_neg y, Option.bind_some]
    · unfold r10_goesFlat
      rw [g2', Option.bind_some]
      simp only [m2, if_neg one_n0, e2]
      by_cases y : nI n < 500
      · simp only [if_pos y, if_pos (iff.mp y), Option.bind_some, reduceIte]
      · simp only [if_neg y, if_neg (fun q => y (iff.mpr q)), Option.bind_some]
/-- all strings -/
theorem damp_all {C M : mI} {s p q : Nat} (h : PW C M s) (hp : p < 6) (hq : q < 12) (hV : VR0 (C 40) M p q) : ∃ C' M', r5_dampStrings C s = some C' ∧ l10_plays_56 (nI p) (nI q) (C 40 9) FU 0 M = some M' ∧ PW C' M' s ∧ frC s C C' ∧ frM M M' ∧ VR (C' 40) M' p q := by
  obtain ⟨u, v, q1, q2, P, F, G, W⟩ := loop2x (fun f k a => l5_dampStrings_2 s f (nI k) a) (fun f k b => l10_plays_56 (nI p) (nI q) (C 40 9) f (nI k) b) (fun k a b => PW a b s ∧ frC s C a ∧ frM M b ∧ VR0 (a 40) b p q ∧ a 40 9 = C 40 9) (fun a b => PW a b s ∧ frC s C a ∧ frM M b ∧ VR0 (a 40) b p q) 8
    (fun a b ⟨P, F, G, W, N⟩ => ⟨a, b, fun f => by show l5_dampStrings_2 _ (f + 1) _ _ = _; rw [l5_dampStrings_2, if_pos (by decide)], fun f => by show l10_plays_56 _ _ _ (f + 1) _ _ = _; rw [l10_plays_56, if_pos (by decide)], P, F, G, W⟩)
    (fun k a b hk ⟨P, F, G, W, N⟩ => by
      obtain ⟨a', b', e1, e2, P', F', G', W', N'⟩ := damp_step P hp hq hk W
      refine .inr ⟨a', b', fun f _ => e1 f, fun g _ => ?_, P', frC_t F F', frM_t G G', W', by rw [N', N]⟩
      show l10_plays_56 _ _ _ (g + 1) _ _ = l10_plays_56 _ _ _ g _ _
      rw [l10_plays_56, if_neg (show ¬ (8 : Int32) ≤ nI k from nI_ge (b := 8) hk (by decide)), ← N, e2, Option.bind_some, nI_1]) 8 0 FU FU C M (by omega) (FU_lt (by omega)) (FU_lt (by omega)) ⟨h, frC_r _ _, frM_r _, hV, rfl⟩
  have hs := PW_s P
  have r40 : (mW (mW u 40 7 0) 40 6 0) 40 = mU (mU (u 40) 7 0) 6 0 := by rw [mW_row, mW_row]
  refine ⟨mW (mW u 40 7 0) 40 6 0, v, ?_, q2, PW_scr P (fun a h1 h2 => by rw [mW_ne _ _ _ h1, mW_ne _ _ _ h1]) (fun _ _ _ => rfl), fun a h1 h2 h3 h4 => by rw [mW_ne _ _ _ h2, mW_ne _ _ _ h2]; exact F a h1 h2 h3 h4, G, ?_⟩
  · unfold r5_dampStrings
    rw [show l5_dampStrings_2 s FU 0 C = some u from q1, Option.bind_some]
  · rw [r40]
    obtain ⟨u0, u1, u2, u3, u8, u10, u11⟩ := W
    exact ⟨u0, u1, u2, u3, rfl, rfl, u8, u10, u11⟩

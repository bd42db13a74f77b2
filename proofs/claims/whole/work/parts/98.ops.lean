/-! the law out of the 36 statements -/
theorem mScr_n (X : Nat × (Nat → Int32)) {i : Nat} (h : i < X.1) (hX : X.1 ≤ 3072) : mScr X (nI i) = some (X.2 i) := by
  unfold mScr
  have e : (nI i).toNatClampNeg = i := nI_clamp (by omega)
  rw [e, if_neg]
  rintro (h1 | h1)
  · exact nI_pos (by omega) h1
  · omega
theorem mScr_k (X : Nat × (Nat → Int32)) {i : Nat} (k : Nat) {c : Int32} (hc : c = nI k) (h : i + k < X.1) (hX : X.1 ≤ 3072) : mScr X (nI i + c) = some (X.2 (i + k)) := by
  rw [hc, nI_add]
  exact mScr_n X h hX
theorem nI_past {n i : Nat} (hn : n ≤ 3072) (hi : i ≤ 3072) (h : n < i + 6) : Int32.ofNat n - 6 < nI i := by
  rw [i32_lt, show Int32.ofNat n = nI n from rfl, show (6 : Int32) = nI 6 by decide, pk_sub_toInt (by omega) (by omega), nI_toInt (by omega)]
  omega
theorem nI_here {n i : Nat} (hn : n ≤ 3072) (hi : i ≤ 3072) (h : i + 6 ≤ n) : ¬ Int32.ofNat n - 6 < nI i := by
  rw [i32_lt, show Int32.ofNat n = nI n from rfl, show (6 : Int32) = nI 6 by decide, pk_sub_toInt (by omega) (by omega), nI_toInt (by omega)]
  omega
set_option maxHeartbeats 16000000 in
set_option maxRecDepth 100000 in
theorem law_ind (Inv : mI → Nat → Prop) (h3 : ∀ I s, Inv I s → s = 3 ∨ s = 35) (h_state : S_state Inv) (h_piece : S_piece Inv) (h_player : S_player Inv) (h_set : S_set Inv) (h_play : S_play Inv) (h_act : S_act Inv) (h_days : S_days Inv) (h_feed : S_feed Inv) (h_end : S_end Inv) (h_text : S_text Inv) (h_fault : S_fault Inv) (h_of : S_of Inv) (h_who : S_who Inv) (h_string : S_string Inv) (h_damps : S_damps Inv) (h_settles : S_settles Inv) (h_book : S_book Inv) (h_goes : S_goes Inv) (h_lasts : S_lasts Inv) (h_chords : S_chords Inv) (h_tone : S_tone Inv) (h_tune : S_tune Inv) (h_canon : S_canon Inv) (h_bar : S_bar Inv) (h_period : S_period Inv) (h_beats : S_beats Inv) (h_pedal : S_pedal Inv) (h_mud : S_mud Inv) (h_whose : S_whose Inv) (h_have : S_have Inv) (h_alike : S_alike Inv) (h_pages : S_pages Inv) (h_game : S_game Inv) (h_undo : S_undo Inv) (h_image : S_image Inv) (h_look : S_look Inv) (X : Nat × (Nat → Int32)) (hX : X.1 ≤ 3072) : ∀ (n f i s : Nat) (I : mI), Inv I s → i ≤ 3072 → X.1 < i + 6 * n + 6 → n < f → lL_law X f (nI i) s I = some 1 := by
  intro n
  induction n with
  | zero =>
    intro f i s I hI hi hn hf
    obtain ⟨f, rfl⟩ : ∃ g, f = g + 1 := ⟨f - 1, by omega⟩
    rw [lL_law, if_pos (nI_past hX hi (by omega))]
  | succ n ih =>
    intro f i s I hI hi hn hf
    obtain ⟨f, rfl⟩ : ∃ g, f = g + 1 := ⟨f - 1, by omega⟩
    rw [lL_law]
    by_cases hp : X.1 < i + 6
    · rw [if_pos (nI_past hX hi hp)]
    · rw [if_neg (nI_here hX hi (by omega))]
      have e0 := mScr_n X (i := i) (by omega) hX
      have e1 := mScr_k X (i := i) 1 (c := 1) (by decide) (by omega) hX
      have e2 := mScr_k X (i := i) 2 (c := 2) (by decide) (by omega) hX
      have e3 := mScr_k X (i := i) 3 (c := 3) (by decide) (by omega) hX
      have e4 := mScr_k X (i := i) 4 (c := 4) (by decide) (by omega) hX
      have e5 := mScr_k X (i := i) 5 (c := 5) (by decide) (by omega) hX
      have e6 : nI i + 6 = nI (i + 6) := by rw [show (6 : Int32) = nI 6 by decide, nI_add]
      have hgo : ∀ (J : mI) (t : Nat), Inv J t → (mStO t).bind (fun _ => lL_law X f (nI i + 6) t J) = some 1 := by
        intro J t hJ
        have hm : mStO t = some () := by unfold mStO; rw [if_pos (h3 J t hJ)]
        rw [hm, e6]
        exact ih f (i + 6) t J hJ (by omega) (by omega) (by omega)
      rw [e0, Option.bind_some]
      generalize X.2 i &&& 63 = op
      simp only [e1, e2, e3, e4, e5, Option.bind_some]
      by_cases q0 : op = 0
      · rw [if_pos q0]
        obtain ⟨v, I1, I2, g1, g2, g3⟩ := h_state I s hI (X.2 (i + 1))
        simp only [g1, g2, Option.bind_some, reduceIte]
        exact hgo _ _ g3
      rw [if_neg q0]
      by_cases q1 : op = 1
      · rw [if_pos q1]
        obtain ⟨v, I1, I2, g1, g2, g3⟩ := h_piece I s hI (X.2 (i + 1)) (X.2 (i + 2)) (X.2 (i + 3))
        simp only [g1, g2, Option.bind_some, reduceIte]
        exact hgo _ _ g3
      rw [if_neg q1]
      by_cases q2 : op = 2
      · rw [if_pos q2]
        obtain ⟨v, I1, I2, g1, g2, g3⟩ := h_player I s hI (X.2 (i + 1)) (X.2 (i + 2))
        simp only [g1, g2, Option.bind_some, reduceIte]
        exact hgo _ _ g3
      rw [if_neg q2]
      by_cases q3 : op = 3
      · rw [if_pos q3]
        obtain ⟨v, I1, I2, g1, g2, g3⟩ := h_set I s hI (X.2 (i + 1)) (X.2 (i + 2)) (X.2 (i + 3))
        simp only [g1, g2, Option.bind_some, reduceIte]
        exact hgo _ _ g3
      rw [if_neg q3]
      by_cases q4 : op = 4
      · rw [if_pos q4]
        obtain ⟨v, I1, s1, I2, g1, g2, g3⟩ := h_play I s hI (X.2 (i + 1)) (X.2 (i + 2))
        simp only [g1, g2, Option.bind_some, reduceIte]
        exact hgo _ _ g3
      rw [if_neg q4]
      by_cases q5 : op = 5
      · rw [if_pos q5]
        obtain ⟨v, I1, s1, I2, g1, g2, g3⟩ := h_act I s hI (X.2 (i + 1)) (X.2 (i + 2))
        simp only [g1, g2, Option.bind_some, reduceIte]
        exact hgo _ _ g3
      rw [if_neg q5]
      by_cases q6 : op = 6
      · rw [if_pos q6]
        obtain ⟨v, I1, s1, I2, g1, g2, g3⟩ := h_days I s hI (X.2 (i + 1))
        simp only [g1, g2, Option.bind_some, reduceIte]
        exact hgo _ _ g3
      rw [if_neg q6]
      by_cases q7 : op = 7
      · rw [if_pos q7]
        obtain ⟨v, I1, I2, g1, g2, g3⟩ := h_feed I s hI (X.2 (i + 1)) (X.2 (i + 2)) (X.2 (i + 3)) (X.2 (i + 4)) (X.2 (i + 5))
        simp only [g1, g2, Option.bind_some, reduceIte]
        exact hgo _ _ g3
      rw [if_neg q7]
      by_cases q8 : op = 8
      · rw [if_pos q8]
        obtain ⟨v, I1, I2, g1, g2, g3⟩ := h_end I s hI (X.2 (i + 1))
        simp only [g1, g2, Option.bind_some, reduceIte]
        exact hgo _ _ g3
      rw [if_neg q8]
      by_cases q9 : op = 9
      · rw [if_pos q9]
        obtain ⟨v, I1, I2, g1, g2, g3⟩ := h_text I s hI (X.2 (i + 1))
        simp only [g1, g2, Option.bind_some, reduceIte]
        exact hgo _ _ g3
      rw [if_neg q9]
      by_cases q10 : op = 10
      · rw [if_pos q10]
        obtain ⟨I2, g2, g3⟩ := h_fault I s hI (X.2 (i + 1))
        simp only [g2, Option.bind_some, reduceIte]
        exact hgo _ _ g3
      rw [if_neg q10]
      by_cases q11 : op = 11
      · rw [if_pos q11]
        obtain ⟨v, I1, s1, I2, g1, g2, g3⟩ := h_of I s hI (X.2 (i + 1)) (X.2 (i + 2))
        simp only [g1, g2, Option.bind_some, reduceIte]
        exact hgo _ _ g3
      rw [if_neg q11]
      by_cases q12 : op = 12
      · rw [if_pos q12]
        obtain ⟨v, I2, g1, g2, g3⟩ := h_who I s hI (X.2 (i + 1)) (X.2 (i + 2))
        simp only [g1, g2, Option.bind_some, reduceIte]
        exact hgo _ _ g3
      rw [if_neg q12]
      by_cases q13 : op = 13
      · rw [if_pos q13]
        obtain ⟨v, I2, g1, g2, g3⟩ := h_string I s hI (X.2 (i + 1)) (X.2 (i + 2))
        simp only [g1, g2, Option.bind_some, reduceIte]
        exact hgo _ _ g3
      rw [if_neg q13]
      by_cases q14 : op = 14
      · rw [if_pos q14]
        obtain ⟨v, I1, s1, I2, g1, g2, g3⟩ := h_damps I s hI (X.2 (i + 1)) (X.2 (i + 2)) (X.2 (i + 3))
        simp only [g1, g2, Option.bind_some, reduceIte]
        exact hgo _ _ g3
      rw [if_neg q14]
      by_cases q15 : op = 15
      · rw [if_pos q15]
        obtain ⟨v, I1, s1, I2, g1, g2, g3⟩ := h_settles I s hI (X.2 (i + 1)) (X.2 (i + 2))
        simp only [g1, g2, Option.bind_some, reduceIte]
        exact hgo _ _ g3
      rw [if_neg q15]
      by_cases q16 : op = 16
      · rw [if_pos q16]
        obtain ⟨v, I2, g1, g2, g3⟩ := h_book I s hI (X.2 (i + 1)) (X.2 (i + 2))
        simp only [g1, g2, Option.bind_some, reduceIte]
        exact hgo _ _ g3
      rw [if_neg q16]
      by_cases q17 : op = 17
      · rw [if_pos q17]
        obtain ⟨v, I1, s1, I2, g1, g2, g3⟩ := h_goes I s hI (X.2 (i + 1)) (X.2 (i + 2))
        simp only [g1, g2, Option.bind_some, reduceIte]
        exact hgo _ _ g3
      rw [if_neg q17]
      by_cases q18 : op = 18
      · rw [if_pos q18]
        obtain ⟨v, I1, s1, I2, g1, g2, g3⟩ := h_lasts I s hI (X.2 (i + 1)) (X.2 (i + 2)) (X.2 (i + 3))
        simp only [g1, g2, Option.bind_some, reduceIte]
        exact hgo _ _ g3
      rw [if_neg q18]
      by_cases q19 : op = 19
      · rw [if_pos q19]
        obtain ⟨v, I2, g1, g2, g3⟩ := h_chords I s hI (X.2 (i + 1)) (X.2 (i + 2)) (X.2 (i + 3))
        simp only [g1, g2, Option.bind_some, reduceIte]
        exact hgo _ _ g3
      rw [if_neg q19]
      by_cases q20 : op = 20
      · rw [if_pos q20]
        obtain ⟨v, I1, I2, g1, g2, g3⟩ := h_tone I s hI (X.2 (i + 1))
        simp only [g1, g2, Option.bind_some, reduceIte]
        exact hgo _ _ g3
      rw [if_neg q20]
      by_cases q21 : op = 21
      · rw [if_pos q21]
        obtain ⟨v, I1, I2, g1, g2, g3⟩ := h_tune I s hI (X.2 (i + 1))
        simp only [g1, g2, Option.bind_some, reduceIte]
        exact hgo _ _ g3
      rw [if_neg q21]
      by_cases q22 : op = 22
      · rw [if_pos q22]
        obtain ⟨v, I2, g1, g2, g3⟩ := h_canon I s hI (X.2 (i + 1)) (X.2 (i + 2)) (X.2 (i + 3))
        simp only [g1, g2, Option.bind_some, reduceIte]
        exact hgo _ _ g3
      rw [if_neg q22]
      by_cases q23 : op = 23
      · rw [if_pos q23]
        obtain ⟨v, I1, I2, g1, g2, g3⟩ := h_bar I s hI (X.2 (i + 1)) (X.2 (i + 2)) (X.2 (i + 3))
        simp only [g1, g2, Option.bind_some, reduceIte]
        exact hgo _ _ g3
      rw [if_neg q23]
      by_cases q24 : op = 24
      · rw [if_pos q24]
        obtain ⟨v, I1, I2, g1, g2, g3⟩ := h_period I s hI (X.2 (i + 1)) (X.2 (i + 2))
        simp only [g1, g2, Option.bind_some, reduceIte]
        exact hgo _ _ g3
      rw [if_neg q24]
      by_cases q25 : op = 25
      · rw [if_pos q25]
        obtain ⟨v, I2, g1, g2, g3⟩ := h_beats I s hI (X.2 (i + 1)) (X.2 (i + 2))
        simp only [g1, g2, Option.bind_some, reduceIte]
        exact hgo _ _ g3
      rw [if_neg q25]
      by_cases q26 : op = 26
      · rw [if_pos q26]
        obtain ⟨v, I1, I2, g1, g2, g3⟩ := h_pedal I s hI (X.2 (i + 1)) (X.2 (i + 2)) (X.2 (i + 3))
        simp only [g1, g2, Option.bind_some, reduceIte]
        exact hgo _ _ g3
      rw [if_neg q26]
      by_cases q27 : op = 27
      · rw [if_pos q27]
        obtain ⟨v, I2, g1, g2, g3⟩ := h_mud I s hI (X.2 (i + 1))
        simp only [g1, g2, Option.bind_some, reduceIte]
        exact hgo _ _ g3
      rw [if_neg q27]
      by_cases q28 : op = 28
      · rw [if_pos q28]
        obtain ⟨v, I2, g1, g2, g3⟩ := h_whose I s hI (X.2 (i + 1)) (X.2 (i + 2))
        simp only [g1, g2, Option.bind_some, reduceIte]
        exact hgo _ _ g3
      rw [if_neg q28]
      by_cases q29 : op = 29
      · rw [if_pos q29]
        obtain ⟨v, I1, I2, g1, g2, g3⟩ := h_have I s hI (X.2 (i + 1)) (X.2 (i + 2))
        simp only [g1, g2, Option.bind_some, reduceIte]
        exact hgo _ _ g3
      rw [if_neg q29]
      by_cases q30 : op = 30
      · rw [if_pos q30]
        obtain ⟨v, I2, g1, g2, g3⟩ := h_alike I s hI (X.2 (i + 1))
        simp only [g1, g2, Option.bind_some, reduceIte]
        exact hgo _ _ g3
      rw [if_neg q30]
      by_cases q31 : op = 31
      · rw [if_pos q31]
        obtain ⟨v, I2, g1, g2, g3⟩ := h_pages I s hI (X.2 (i + 1)) (X.2 (i + 2)) (X.2 (i + 3)) (X.2 (i + 4))
        simp only [g1, g2, Option.bind_some, reduceIte]
        exact hgo _ _ g3
      rw [if_neg q31]
      by_cases q32 : op = 32
      · rw [if_pos q32]
        obtain ⟨v, I2, g1, g2, g3⟩ := h_game I s hI (X.2 (i + 1))
        simp only [g1, g2, Option.bind_some, reduceIte]
        exact hgo _ _ g3
      rw [if_neg q32]
      by_cases q33 : op = 33
      · rw [if_pos q33]
        obtain ⟨v, I1, I2, g1, g2, g3⟩ := h_undo I s hI
        simp only [g1, g2, Option.bind_some, reduceIte]
        exact hgo _ _ g3
      rw [if_neg q33]
      by_cases q34 : op = 34
      · rw [if_pos q34]
        by_cases hb : X.2 (i + 1) = 0
        · obtain ⟨v, I1, I2, g1, g2, g3⟩ := h_image I s hI 0 (by simp)
          simp only [if_pos hb, Option.bind_some, g1, g2, if_true, reduceIte]
          exact hgo _ _ g3
        · obtain ⟨v, I1, I2, g1, g2, g3⟩ := h_image I s hI 1 (by simp)
          simp only [if_neg hb, Option.bind_some, g1, g2, if_true, reduceIte]
          exact hgo _ _ g3
      rw [if_neg q34]
      by_cases q35 : op = 35
      · rw [if_pos q35]
        obtain ⟨I2, g2, g3⟩ := h_look I s hI (X.2 (i + 1))
        simp only [g2, Option.bind_some, reduceIte]
        exact hgo _ _ g3
      rw [if_neg q35]
      exact hgo _ _ hI

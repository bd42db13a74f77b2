/-! AN IMAGE: the reference's loops -/
theorem cD120 : ∀ k, k < 47 → cellOf (0 + 1 * k) = (120, k) := by decide +kernel
theorem k_l10_image_35 {w : Int32} {Z J : mI} (hw : w = 0 ∨ w = 1) (h : KP w Z 0 J) : ∃ J', l10_image_35 FU 0 J = some J' ∧ KP w Z 47 J' := by
  refine kloop l10_image_35 0 1 47 (by decide) (fun f I => by rw [l10_image_35, if_pos (by decide)]) (fun k I0 hk h0 => ?_) h
  obtain ⟨I1, h1, e1⟩ := kst (α := mI) (N := 47) hw h0 (by omega) (cD120 k hk) (by omega) (by decide)
  refine ⟨I1, h1, fun f => ?_⟩
  rw [l10_image_35, if_neg (show ¬ (47 : Int32) ≤ nI k from nI_ge (b := 47) hk (by decide)), e1, nI_1]
theorem cD123 : ∀ k, k < 12 → cellOf (54 + 4 * k) = (123, k) := by decide +kernel
theorem cD124 : ∀ k, k < 12 → cellOf (54 + 4 * k + 1) = (124, k) := by decide +kernel
theorem cD125 : ∀ k, k < 12 → cellOf (54 + 4 * k + 1 + 1) = (125, k) := by decide +kernel
theorem cD141 : ∀ k, k < 12 → cellOf (54 + 4 * k + 1 + 1 + 1) = (141, k) := by decide +kernel
theorem k_l10_keepsTold_2 {w : Int32} {Z J : mI} (hw : w = 0 ∨ w = 1) (h : KP w Z 54 J) : ∃ J', l10_keepsTold_2 FU 0 J = some J' ∧ KP w Z 102 J' := by
  refine kloop l10_keepsTold_2 54 4 12 (by decide) (fun f I => by rw [l10_keepsTold_2, if_pos (by decide)]) (fun k I0 hk h0 => ?_) h
  obtain ⟨I1, h1, e1⟩ := kst (α := mI) (N := 12) hw h0 (by omega) (cD123 k hk) (by omega) (by decide)
  obtain ⟨I2, h2, e2⟩ := kst (α := mI) (N := 12) hw h1 (by omega) (cD124 k hk) (by omega) (by decide)
  obtain ⟨I3, h3, e3⟩ := kst (α := mI) (N := 12) hw h2 (by omega) (cD125 k hk) (by omega) (by decide)
  obtain ⟨I4, h4, e4⟩ := kst (α := mI) (N := 24) hw h3 (by omega) (cD141 k hk) (by omega) (by decide)
  refine ⟨I4, h4, fun f => ?_⟩
  rw [l10_keepsTold_2, if_neg (show ¬ (12 : Int32) ≤ nI k from nI_ge (b := 12) hk (by decide)), e1, e2, e3, e4, nI_1]
theorem cD126 : ∀ k, k < 6 → cellOf (102 + 2 * k) = (126, k) := by decide +kernel
theorem cD127 : ∀ k, k < 6 → cellOf (102 + 2 * k + 1) = (127, k) := by decide +kernel
theorem k_l10_keepsTold_80 {w : Int32} {Z J : mI} (hw : w = 0 ∨ w = 1) (h : KP w Z 102 J) : ∃ J', l10_keepsTold_80 FU 0 J = some J' ∧ KP w Z 114 J' := by
  refine kloop l10_keepsTold_80 102 2 6 (by decide) (fun f I => by rw [l10_keepsTold_80, if_pos (by decide)]) (fun k I0 hk h0 => ?_) h
  obtain ⟨I1, h1, e1⟩ := kst (α := mI) (N := 6) hw h0 (by omega) (cD126 k hk) (by omega) (by decide)
  obtain ⟨I2, h2, e2⟩ := kst (α := mI) (N := 6) hw h1 (by omega) (cD127 k hk) (by omega) (by decide)
  refine ⟨I2, h2, fun f => ?_⟩
  rw [l10_keepsTold_80, if_neg (show ¬ (6 : Int32) ≤ nI k from nI_ge (b := 6) hk (by decide)), e1, e2, nI_1]
theorem cD149 : ∀ k, k < 8 → cellOf (114 + 1 * k) = (149, k) := by decide +kernel
theorem k_l10_keepsTold_126 {w : Int32} {Z J : mI} (hw : w = 0 ∨ w = 1) (h : KP w Z 114 J) : ∃ J', l10_keepsTold_126 FU 0 J = some J' ∧ KP w Z 122 J' := by
  refine kloop l10_keepsTold_126 114 1 8 (by decide) (fun f I => by rw [l10_keepsTold_126, if_pos (by decide)]) (fun k I0 hk h0 => ?_) h
  obtain ⟨I1, h1, e1⟩ := kst (α := mI) (N := 8) hw h0 (by omega) (cD149 k hk) (by omega) (by decide)
  refine ⟨I1, h1, fun f => ?_⟩
  rw [l10_keepsTold_126, if_neg (show ¬ (8 : Int32) ≤ nI k from nI_ge (b := 8) hk (by decide)), e1, nI_1]
theorem cD146 : ∀ k, k < 16 → cellOf (122 + 1 * k) = (146, k) := by decide +kernel
theorem k_l10_keepsTold_156 {w : Int32} {Z J : mI} (hw : w = 0 ∨ w = 1) (h : KP w Z 122 J) : ∃ J', l10_keepsTold_156 FU 0 J = some J' ∧ KP w Z 138 J' := by
  refine kloop l10_keepsTold_156 122 1 16 (by decide) (fun f I => by rw [l10_keepsTold_156, if_pos (by decide)]) (fun k I0 hk h0 => ?_) h
  obtain ⟨I1, h1, e1⟩ := kst (α := mI) (N := 16) hw h0 (by omega) (cD146 k hk) (by omega) (by decide)
  refine ⟨I1, h1, fun f => ?_⟩
  rw [l10_keepsTold_156, if_neg (show ¬ (16 : Int32) ≤ nI k from nI_ge (b := 16) hk (by decide)), e1, nI_1]
theorem cD150 : ∀ k, k < 9 → cellOf (138 + 3 * k) = (150, k) := by decide +kernel
theorem cD151 : ∀ k, k < 9 → cellOf (138 + 3 * k + 1) = (151, k) := by decide +kernel
theorem cD152 : ∀ k, k < 9 → cellOf (138 + 3 * k + 1 + 1) = (152, k) := by decide +kernel
theorem k_l10_keepsTold_186 {w : Int32} {Z J : mI} (hw : w = 0 ∨ w = 1) (h : KP w Z 138 J) : ∃ J', l10_keepsTold_186 FU 0 J = some J' ∧ KP w Z 165 J' := by
  refine kloop l10_keepsTold_186 138 3 9 (by decide) (fun f I => by rw [l10_keepsTold_186, if_pos (by decide)]) (fun k I0 hk h0 => ?_) h
  obtain ⟨I1, h1, e1⟩ := kst (α := mI) (N := 9) hw h0 (by omega) (cD150 k hk) (by omega) (by decide)
  obtain ⟨I2, h2, e2⟩ := kst (α := mI) (N := 9) hw h1 (by omega) (cD151 k hk) (by omega) (by decide)
  obtain ⟨I3, h3, e3⟩ := kst (α := mI) (N := 9) hw h2 (by omega) (cD152 k hk) (by omega) (by decide)
  refine ⟨I3, h3, fun f => ?_⟩
  rw [l10_keepsTold_186, if_neg (show ¬ (9 : Int32) ≤ nI k from nI_ge (b := 9) hk (by decide)), e1, e2, e3, nI_1]
theorem cD139 : ∀ k, k < 144 → cellOf (165 + 1 * k) = (139, k) := by decide +kernel
theorem k_l10_keepsTold_248 {w : Int32} {Z J : mI} (hw : w = 0 ∨ w = 1) (h : KP w Z 165 J) : ∃ J', l10_keepsTold_248 FU 0 J = some J' ∧ KP w Z 309 J' := by
  refine kloop l10_keepsTold_248 165 1 144 (by decide) (fun f I => by rw [l10_keepsTold_248, if_pos (by decide)]) (fun k I0 hk h0 => ?_) h
  obtain ⟨I1, h1, e1⟩ := kst (α := mI) (N := 288) hw h0 (by omega) (cD139 k hk) (by omega) (by decide)
  refine ⟨I1, h1, fun f => ?_⟩
  rw [l10_keepsTold_248, if_neg (show ¬ (144 : Int32) ≤ nI k from nI_ge (b := 144) hk (by decide)), e1, nI_1]
theorem cD140 : ∀ k, k < 48 → cellOf (309 + 1 * k) = (140, k) := by decide +kernel
theorem k_l10_keepsTold_279 {w : Int32} {Z J : mI} (hw : w = 0 ∨ w = 1) (h : KP w Z 309 J) : ∃ J', l10_keepsTold_279 FU 0 J = some J' ∧ KP w Z 357 J' := by
  refine kloop l10_keepsTold_279 309 1 48 (by decide) (fun f I => by rw [l10_keepsTold_279, if_pos (by decide)]) (fun k I0 hk h0 => ?_) h
  obtain ⟨I1, h1, e1⟩ := kst (α := mI) (N := 96) hw h0 (by omega) (cD140 k hk) (by omega) (by decide)
  refine ⟨I1, h1, fun f => ?_⟩
  rw [l10_keepsTold_279, if_neg (show ¬ (48 : Int32) ≤ nI k from nI_ge (b := 48) hk (by decide)), e1, nI_1]
theorem cD128' : ∀ a, a < 25 → ∀ b, b < 24 → cellOf (357 + 1 * (24 * a + b)) = (128, 24 * a + b) := by decide +kernel
theorem cD128 (k : Nat) (hk : k < 600) : cellOf (357 + 1 * k) = (128, k) := by
  have := cD128' (k / 24) (by omega) (k % 24) (by omega)
  rw [show 24 * (k / 24) + k % 24 = k by omega] at this
  exact this
theorem k_l10_image_73 {w : Int32} {Z J : mI} (hw : w = 0 ∨ w = 1) (h : KP w Z 357 J) : ∃ J', l10_image_73 FU 0 J = some J' ∧ KP w Z 957 J' := by
  refine kloop l10_image_73 357 1 600 (by decide) (fun f I => by rw [l10_image_73, if_pos (by decide)]) (fun k I0 hk h0 => ?_) h
  obtain ⟨I1, h1, e1⟩ := kst (α := mI) (N := 600) hw h0 (by omega) (cD128 k hk) (by omega) (by decide)
  refine ⟨I1, h1, fun f => ?_⟩
  rw [l10_image_73, if_neg (show ¬ (600 : Int32) ≤ nI k from nI_ge (b := 600) hk (by decide)), e1, nI_1]
theorem cD132 : ∀ k, k < 16 → cellOf (958 + 4 * k) = (132, k) := by decide +kernel
theorem cD133 : ∀ k, k < 16 → cellOf (958 + 4 * k + 1) = (133, k) := by decide +kernel
theorem cD134 : ∀ k, k < 16 → cellOf (958 + 4 * k + 1 + 1) = (134, k) := by decide +kernel
theorem cD135 : ∀ k, k < 16 → cellOf (958 + 4 * k + 1 + 1 + 1) = (135, k) := by decide +kernel
theorem k_l10_keepsLaw_18 {w : Int32} {Z J : mI} (hw : w = 0 ∨ w = 1) (h : KP w Z 958 J) : ∃ J', l10_keepsLaw_18 FU 0 J = some J' ∧ KP w Z 1022 J' := by
  refine kloop l10_keepsLaw_18 958 4 16 (by decide) (fun f I => by rw [l10_keepsLaw_18, if_pos (by decide)]) (fun k I0 hk h0 => ?_) h
  obtain ⟨I1, h1, e1⟩ := kst (α := mI) (N := 48) hw h0 (by omega) (cD132 k hk) (by omega) (by decide)
  obtain ⟨I2, h2, e2⟩ := kst (α := mI) (N := 48) hw h1 (by omega) (cD133 k hk) (by omega) (by decide)
  obtain ⟨I3, h3, e3⟩ := kst (α := mI) (N := 48) hw h2 (by omega) (cD134 k hk) (by omega) (by decide)
  obtain ⟨I4, h4, e4⟩ := kst (α := mI) (N := 48) hw h3 (by omega) (cD135 k hk) (by omega) (by decide)
  refine ⟨I4, h4, fun f => ?_⟩
  rw [l10_keepsLaw_18, if_neg (show ¬ (16 : Int32) ≤ nI k from nI_ge (b := 16) hk (by decide)), e1, e2, e3, e4, nI_1]
theorem cD136' : ∀ a, a < 20 → ∀ b, b < 20 → cellOf (1022 + 2 * (20 * a + b)) = (136, 20 * a + b) := by decide +kernel
theorem cD136 (k : Nat) (hk : k < 400) : cellOf (1022 + 2 * k) = (136, k) := by
  have := cD136' (k / 20) (by omega) (k % 20) (by omega)
  rw [show 20 * (k / 20) + k % 20 = k by omega] at this
  exact this
theorem cD137' : ∀ a, a < 20 → ∀ b, b < 20 → cellOf (1022 + 2 * (20 * a + b) + 1) = (137, 20 * a + b) := by decide +kernel
theorem cD137 (k : Nat) (hk : k < 400) : cellOf (1022 + 2 * k + 1) = (137, k) := by
  have := cD137' (k / 20) (by omega) (k % 20) (by omega)
  rw [show 20 * (k / 20) + k % 20 = k by omega] at this
  exact this
theorem k_l10_keepsLaw_96 {w : Int32} {Z J : mI} (hw : w = 0 ∨ w = 1) (h : KP w Z 1022 J) : ∃ J', l10_keepsLaw_96 FU 0 J = some J' ∧ KP w Z 1822 J' := by
  refine kloop l10_keepsLaw_96 1022 2 400 (by decide) (fun f I => by rw [l10_keepsLaw_96, if_pos (by decide)]) (fun k I0 hk h0 => ?_) h
  obtain ⟨I1, h1, e1⟩ := kst (α := mI) (N := 1200) hw h0 (by omega) (cD136 k hk) (by omega) (by decide)
  obtain ⟨I2, h2, e2⟩ := kst (α := mI) (N := 1200) hw h1 (by omega) (cD137 k hk) (by omega) (by decide)
  refine ⟨I2, h2, fun f => ?_⟩
  rw [l10_keepsLaw_96, if_neg (show ¬ (400 : Int32) ≤ nI k from nI_ge (b := 400) hk (by decide)), e1, e2, nI_1]
theorem k_many {w : Int32} {Z J : mI} (hw : w = 0 ∨ w = 1) (h : KP w Z 47 J) : ∃ J', r10_keepsMany J = some J' ∧ KP w Z 54 J' := by
  obtain ⟨x1, J1, q1, h1⟩ := kst1 hw h (by omega) (show cellOf 47 = (119, 6) by decide)
  obtain ⟨x2, J2, q2, h2⟩ := kst1 hw h1 (by omega) (show cellOf 48 = (119, 7) by decide)
  obtain ⟨x3, J3, q3, h3⟩ := kst1 hw h2 (by omega) (show cellOf 49 = (119, 37) by decide)
  obtain ⟨x4, J4, q4, h4⟩ := kst1 hw h3 (by omega) (show cellOf 50 = (119, 39) by decide)
  obtain ⟨x5, J5, q5, h5⟩ := kst1 hw h4 (by omega) (show cellOf 51 = (119, 41) by decide)
  obtain ⟨x6, J6, q6, h6⟩ := kst1 hw h5 (by omega) (show cellOf 52 = (119, 48) by decide)
  obtain ⟨x7, J7, q7, h7⟩ := kst1 hw h6 (by omega) (show cellOf 53 = (119, 53) by decide)
  rw [mW_off _ _ (by decide)] at q2 q3 q4 q5 q6 q7
  refine ⟨_, ?_, h7⟩
  unfold r10_keepsMany
  rw [q1, Option.bind_some, q2, Option.bind_some, q3, Option.bind_some, q4, Option.bind_some, q5, Option.bind_some, q6, Option.bind_some, q7, Option.bind_some]
theorem k_told {w : Int32} {Z J : mI} (hw : w = 0 ∨ w = 1) (h : KP w Z 54 J) : ∃ J', r10_keepsTold J = some J' ∧ KP w Z 357 J' := by
  obtain ⟨J1, q1, h1⟩ := k_l10_keepsTold_2 hw h
  obtain ⟨J2, q2, h2⟩ := k_l10_keepsTold_80 hw h1
  obtain ⟨J3, q3, h3⟩ := k_l10_keepsTold_126 hw h2
  obtain ⟨J4, q4, h4⟩ := k_l10_keepsTold_156 hw h3
  obtain ⟨J5, q5, h5⟩ := k_l10_keepsTold_186 hw h4
  obtain ⟨J6, q6, h6⟩ := k_l10_keepsTold_248 hw h5
  obtain ⟨J7, q7, h7⟩ := k_l10_keepsTold_279 hw h6
  refine ⟨J7, ?_, h7⟩
  unfold r10_keepsTold
  rw [q1, Option.bind_some, q2, Option.bind_some, q3, Option.bind_some, q4, Option.bind_some, q5, Option.bind_some, q6, Option.bind_some, q7, Option.bind_some]
theorem k_law {w : Int32} {Z J : mI} (hw : w = 0 ∨ w = 1) (h : KP w Z 957 J) : ∃ J', r10_keepsLaw J = some J' ∧ KP w Z 1822 J' := by
  obtain ⟨x1, J1, q1, h1⟩ := kst1 hw h (by omega) (show cellOf 957 = (131, 0) by decide)
  obtain ⟨J2, q2, h2⟩ := k_l10_keepsLaw_18 hw h1
  obtain ⟨J3, q3, h3⟩ := k_l10_keepsLaw_96 hw h2
  refine ⟨J3, ?_, h3⟩
  unfold r10_keepsLaw
  rw [q1, Option.bind_some, q2, Option.bind_some, q3, Option.bind_some]
/-- the reference's image, kept or taken -/
theorem image_m {w : Int32} (hw : w = 0 ∨ w = 1) (I : mI) (h59 : w = 0 → ¬ I 119 59 = 0) : ∃ J, r10_image I w = some (1, if w = 0 then mW J 119 3 0 else J) ∧ KP w (mW (mW (mW (mW I 119 0 0) 119 58 w) 119 59 1) 119 60 0) 1822 J := by
  have h0 : KP w (mW (mW (mW (mW I 119 0 0) 119 58 w) 119 59 1) 119 60 0) 0 (mW (mW (mW (mW I 119 0 0) 119 58 w) 119 59 1) 119 60 0) := by
    refine ⟨?_, ?_, fun j hj => absurd hj (Nat.not_lt_zero _), fun _ _ => rfl, fun _ _ => rfl, fun _ => rfl, fun _ => ⟨fun _ _ _ => rfl, fun _ _ => rfl⟩⟩
    · rw [mW_off _ _ (by decide), mW_off _ _ (by decide), mW_at]
    · rw [mW_at]; rfl
  obtain ⟨J1, q1, h1⟩ := k_l10_image_35 hw h0
  obtain ⟨J2, q2, h2⟩ := k_many hw h1
  obtain ⟨J3, q3, h3⟩ := k_told hw h2
  obtain ⟨J4, q4, h4⟩ := k_l10_image_73 hw h3
  obtain ⟨J5, q5, h5⟩ := k_law hw h4
  refine ⟨J5, ?_, h5⟩
  unfold r10_image mBoO
  rcases hw with rfl | rfl
  · rw [if_pos rfl, if_neg (h59 rfl), if_pos (by decide), Option.bind_some, q1, Option.bind_some, q2, Option.bind_some, q3, Option.bind_some, q4, Option.bind_some, q5, Option.bind_some, if_pos rfl, if_pos rfl, Option.bind_some]
  · rw [if_neg one_n0, if_pos (by decide), Option.bind_some, q1, Option.bind_some, q2, Option.bind_some, q3, Option.bind_some, q4, Option.bind_some, q5, Option.bind_some, if_neg one_n0, if_neg one_n0, Option.bind_some]

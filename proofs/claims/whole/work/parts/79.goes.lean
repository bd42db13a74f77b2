/-! IN THOUGHT HOW DAYS GO; UNDO -/
theorem thinks_e (Z : mI) : r10_thinks Z = some (mW (mU Z 122 (cpf (Z 120) (Z 122) 0 0 47)) 119 5 1) := by
  unfold r10_thinks
  rw [cpl l10_thinks_2 Z 120 122 0 0 47 (by decide) (.inl (by decide)) (fun f I hI => ?_) (fun f k I hk hI => ?_), Option.bind_some]
  · rw [l10_thinks_2, if_pos (by decide)]
  · rw [l10_thinks_2, if_neg (show ¬ (47 : Int32) ≤ nI k from nI_ge (b := 47) hk (by decide)), mLd_n hk (by decide), Option.bind_some, mSto_n hk (by decide), Option.bind_some, nI_1, Nat.zero_add]
theorem ends_e (Z : mI) : r10_endsThought Z = some (mW (mU Z 120 (cpf (Z 122) (Z 120) 0 0 47)) 119 5 0) := by
  unfold r10_endsThought
  rw [cpl l10_endsThought_2 Z 122 120 0 0 47 (by decide) (.inl (by decide)) (fun f I hI => ?_) (fun f k I hk hI => ?_), Option.bind_some]
  · rw [l10_endsThought_2, if_pos (by decide)]
  · rw [l10_endsThought_2, if_neg (show ¬ (47 : Int32) ≤ nI k from nI_ge (b := 47) hk (by decide)), mLd_n hk (by decide), Option.bind_some, mSto_n hk (by decide), Option.bind_some, nI_1, Nat.zero_add]
theorem flatAll_e {C M : mI} {s : Nat} (h : ∀ k, k < 8 → C (s + 4) k = M 120 (9 + k)) : ∃ v, r7_flatOfAll C s = some v ∧ r10_flatOfAll M = some v := by
  obtain ⟨x, y, q1, q2, e⟩ := loop2x (fun f k (a : Int32) => l7_flatOfAll_4 C s f a (nI k)) (fun f k (a : Int32) => l10_flatOfAll_4 M f a (nI k)) (fun k a b => a = b) (fun a b => a = b) 8
    (fun a b e => ⟨a, b, fun f => by show l7_flatOfAll_4 _ _ (f + 1) _ _ = _; rw [l7_flatOfAll_4, if_pos (by decide)], fun f => by show l10_flatOfAll_4 _ (f + 1) _ _ = _; rw [l10_flatOfAll_4, if_pos (by decide)], e⟩)
    (fun k a b hk e => .inr ⟨a + M 120 (9 + k), b + M 120 (9 + k), fun f _ => by
      show l7_flatOfAll_4 _ _ (f + 1) _ _ = _
      rw [l7_flatOfAll_4, if_neg (show ¬ (8 : Int32) ≤ nI k from nI_ge (b := 8) hk (by decide)), mLd_n hk (by decide), Option.bind_some, h k hk, nI_1], fun f _ => by
      show l10_flatOfAll_4 _ (f + 1) _ _ = _
      rw [l10_flatOfAll_4, if_neg (show ¬ (8 : Int32) ≤ nI k from nI_ge (b := 8) hk (by decide)), nI_addl (show (9 : Int32) = nI 9 by decide), mLd_n (by omega) (by decide), Option.bind_some, nI_1], by rw [e]⟩) 8 0 FU FU 0 0 (by omega) (FU_lt (by omega)) (FU_lt (by omega)) rfl
  have e : x = y := e
  subst e
  refine ⟨x, ?_, ?_⟩
  · unfold r7_flatOfAll
    rw [show l7_flatOfAll_4 C s FU 0 0 = some x from q1, Option.bind_some]
  · unfold r10_flatOfAll
    rw [show l10_flatOfAll_4 M FU 0 0 = some x from q2, Option.bind_some]
/-- a thought has ended -/
def Tho (I M C' M' : mI) : Prop := (∀ a, ¬ (a = 1 ∨ (35 ≤ a ∧ a ≤ 43)) → C' a = I a) ∧ (∀ k, k < 47 → M' 120 k = I 120 k) ∧ eqOn 600 (I 34) (M' 128) ∧ (∀ a, ¬ (a = 119 ∨ a = 120 ∨ a = 122 ∨ a = 128 ∨ a = 142 ∨ a = 143 ∨ a = 144 ∨ a = 145) → M' a = M a) ∧ (∀ k, (k = 3 ∨ k = 5 ∨ k = 6 ∨ k = 7 ∨ k = 15 ∨ k = 35 ∨ k = 36 ∨ k = 37 ∨ k = 39 ∨ k = 41 ∨ k = 48 ∨ k = 53 ∨ k = 59) → M' 119 k = M 119 k)
theorem op_tho {I : mI} {s : Nat} (hI : Inv I s) {A : Option (Int32 × mI × Nat)} {B : mI → Option (Int32 × mI)} (h : ∀ M, (∀ a, 119 ≤ a → M a = I a) → ∃ v C' M', A = some (v, C', 35) ∧ B M = some (v, M') ∧ Tho I M C' M') : ∃ (v : Int32) (I1 : mI) (s1 : Nat) (I2 : mI), A = some (v, I1, s1) ∧ B I1 = some (v, I2) ∧ Inv I2 s1 := by
  obtain ⟨v, C', M', a, b, hC, f, t, B6, g, k⟩ := twice (I := I) (A := A) (B := B) (s1 := 35) (Q := fun M C' M' => Tho I M C' M') (fun M hM => by
    obtain ⟨v, C', M', a, b, d⟩ := h M hM
    exact ⟨v, C', M', a, b, fun x hx => d.1 x (by omega), d⟩)
  have lo : ∀ a, a < 119 → ¬ (a = 1 ∨ (35 ≤ a ∧ a ≤ 43)) → M' a = I a := fun a ha hb => by rw [g a (by omega), f a hb]
  have fl : ∀ j, (j = 3 ∨ j = 5 ∨ j = 6 ∨ j = 7 ∨ j = 15 ∨ j = 35 ∨ j = 36 ∨ j = 37 ∨ j = 39 ∨ j = 41 ∨ j = 48 ∨ j = 53 ∨ j = 59) → M' 119 j = I 119 j := fun j hj => by rw [k j hj, hC 119 (by decide)]
  refine ⟨v, C', 35, M', a, b, Inv_S hI (.inr rfl) ?_ (WfS_to hI.1.1.2 t) ?_ (RU_to (C := I) (M := I) hI.2.1 (fun a h1 h2 => lo a (by omega) (by omega)) ?_ (fl 3 (by omega)) (fl 6 (by omega)) (fl 7 (by omega))) (fun a ha => ?_) (fun j hj => fl j (by omega))⟩
  · rw [lo 3 (by decide) (by omega), lo 4 (by decide) (by omega), lo 5 (by decide) (by omega), lo 6 (by decide) (by omega), lo 7 (by decide) (by omega)]
    exact RelS_to hI.1.1.1 (fun _ _ _ => rfl) (fun _ _ => rfl) (fun _ _ => rfl) (fun _ _ => rfl) (fun _ _ => rfl) t
  · rw [lo 34 (by decide) (by omega)]; exact B6
  · rw [g 121 (by omega), hC 121 (by decide)]
  · by_cases z : a < 119
    · exact lo a z (by omega)
    · rw [g a (by omega), hC a (by omega)]
/-- a thought begins -/
theorem think_start {I M : mI} {s : Nat} (h : Inv I s) (hM : ∀ a, 119 ≤ a → M a = I a) : ∃ C1 M1, r5_fallAsleep I s = some C1 ∧ r10_thinks (mW M 119 0 0) = some M1 ∧ DW C1 M1 35 ∧ (∀ a, ¬ (a = 1 ∨ (35 ≤ a ∧ a ≤ 39)) → C1 a = I a) ∧ (∀ a, ¬ (a = 119 ∨ a = 122) → M1 a = M a) ∧ (∀ k, k ≠ 0 → k ≠ 5 → M1 119 k = M 119 k) ∧ (∀ k, k < 47 → M1 122 k = I 120 k) := by
  obtain ⟨J, j1, jf, j0, ja, jb, jc, jd⟩ := copy_e I (a := 35) (b := 3) (by omega)
  have hf : ∀ a, ¬ (a = 1 ∨ (35 ≤ a ∧ a ≤ 39)) → (mW J 1 3 0) a = I a := fun a ha => by rw [mW_ne _ _ _ (by omega), jf a (by omega)]
  have hM1 : ∀ a, ¬ (a = 119 ∨ a = 122) → (mW (mU (mW M 119 0 0) 122 (cpf ((mW M 119 0 0) 120) ((mW M 119 0 0) 122) 0 0 47)) 119 5 1) a = M a := fun a ha => by rw [mW_ne _ _ _ (by omega), mU_ne _ _ (by omega), mW_ne _ _ _ (by omega)]
  have k1 : ∀ k, k ≠ 0 → k ≠ 5 → (mW (mU (mW M 119 0 0) 122 (cpf ((mW M 119 0 0) 120) ((mW M 119 0 0) 122) 0 0 47)) 119 5 1) 119 k = M 119 k := fun k h0 h5 => by rw [mW_off _ _ h5, mU_ne _ _ (by decide), mW_off _ _ h0]
  refine ⟨mW J 1 3 0, _, ?_, thinks_e _, DW_mk h ?_ ?_ ?_ (fun a ha => hf a (by omega)) (fun a ha => by rw [hM1 a (by omega), hM a (by omega)]) (fun k hk => by rw [k1 k (by omega) (by omega), hM 119 (by decide)]) (.inr ⟨rfl, mW_at _ _ _ _, mW_at _ _ _ _⟩), hf, hM1, k1, fun k hk => ?_⟩
  · unfold r5_fallAsleep
    rw [j1, Option.bind_some]
  · rw [hM1 120 (by omega), hM 120 (by decide), mW_ne _ _ _ (show (35 : Nat) ≠ 1 by decide), mW_ne _ _ _ (show (35 + 1 : Nat) ≠ 1 by decide), mW_ne _ _ _ (show (35 + 2 : Nat) ≠ 1 by decide), mW_ne _ _ _ (show (35 + 3 : Nat) ≠ 1 by decide), mW_ne _ _ _ (show (35 + 4 : Nat) ≠ 1 by decide)]
    exact RelS_to h.1.1.1 j0 ja jb jc jd (fun _ _ => rfl)
  · rw [hM1 120 (by omega), hM 120 (by decide)]; exact h.1.1.2
  · rw [hf 34 (by omega), hM1 128 (by omega), hM 128 (by decide)]; exact h.1.2.2.2.2.2.2.2
  · rw [mW_ne _ _ _ (by decide), mU_eq, show k = 0 + k by omega, cpf_in hk, mW_ne _ _ _ (by decide), hM 120 (by decide), Nat.zero_add]
theorem op_goes : S_goes Inv := by
  intro I s h x0 x1
  have bad : r9_goes I s x0 x1 = some (-1, I, s) → r10_goes I x0 x1 = some (-1, mW I 119 0 0) → ∃ (v : Int32) (I1 : mI) (s1 : Nat) (I2 : mI), r9_goes I s x0 x1 = some (v, I1, s1) ∧ r10_goes I1 x0 x1 = some (v, I2) ∧ Inv I2 s1 := fun e1 e2 => ex3 e1 e2 rfl (Inv_told 0 h)
  by_cases a : x0 < 1
  · refine bad ?_ ?_
    · unfold r9_goes; rw [if_pos a]
    · unfold r10_goes; rw [isIn_0a a, if_pos rfl]
  by_cases b : 20 < x0
  · refine bad ?_ ?_
    · unfold r9_goes; rw [if_neg a, if_pos b]
    · unfold r10_goes; rw [isIn_0b b, if_pos rfl]
  by_cases c : x1 < 0
  · refine bad ?_ ?_
    · unfold r9_goes; rw [if_neg a, if_neg b, if_pos c]
    · unfold r10_goes; rw [isIn_1 a b, if_neg one_n0, isIn_0a c, if_pos rfl]
  by_cases d : x1 ≤ 3
  · obtain ⟨n, hn, rfl⟩ := bd_of (x := x0) (M := 20) (n := 20) (by decide) (lt0_of (c := 1) (by decide) a) b
    refine op_tho h (fun M hM => ?_)
    obtain ⟨C1, M1, s1, s2, D1, f1, g1, k1, t1⟩ := think_start h hM
    obtain ⟨C2, M2, q1, q2, D2, f2, g2⟩ := loop2x (fun f k (a : mI) => l9_goes_33 35 (nI n) f (nI k) a) (fun f k (b : mI) => l10_goes_34 (nI n) f (nI k) b) (fun k a b => DW a b 35 ∧ frC 35 C1 a ∧ frM M1 b) (fun a b => DW a b 35 ∧ frC 35 C1 a ∧ frM M1 b) n
      (fun a b ⟨e, F, G⟩ => ⟨a, b, fun f => by show l9_goes_33 _ _ (f + 1) _ _ = _; rw [l9_goes_33, if_pos (by rw [i32_le]; omega)], fun f => by show l10_goes_34 _ (f + 1) _ _ = _; rw [l10_goes_34, if_pos (by rw [i32_le]; omega)], e, F, G⟩)
      (fun k a b hk ⟨D, F, G⟩ => by
        obtain ⟨v, C2, M2, d1, d2, D2, f2, g2⟩ := day_e D
        refine .inr ⟨C2, M2, fun f _ => ?_, fun f _ => ?_, D2, frC_t F f2, frM_t G g2⟩
        · show l9_goes_33 _ _ (f + 1) _ _ = _
          rw [l9_goes_33, if_neg (nI_ge hk (by omega)), d1, Option.bind_some, nI_1]
        · show l10_goes_34 _ (f + 1) _ _ = _
          rw [l10_goes_34, if_neg (nI_ge hk (by omega)), d2, Option.bind_some, nI_1]) n 0 FU FU C1 M1 (by omega) (FU_lt (by omega)) (FU_lt (by omega)) ⟨D1, frC_r _ _, frM_r _⟩
    have q1 : l9_goes_33 35 (nI n) FU 0 C1 = some C2 := q1
    have q2 : l10_goes_34 (nI n) FU 0 M1 = some M2 := q2
    obtain ⟨fl, l1, l2⟩ := flatAll_e (C := C2) (M := M2) (s := 35) D2.1.1.1.2.1
    have e4 : C2 35 4 = M2 120 3 := D2.1.1.1.1.1
    have e5 : C2 35 5 = M2 120 4 := D2.1.1.1.1.2.1
    have e9 : C2 35 9 = M2 120 8 := D2.1.1.1.1.2.2.2.2.2.1
    have hT : Tho I M C2 (mW (mU M2 120 (cpf (M2 122) (M2 120) 0 0 47)) 119 5 0) := by
      refine ⟨fun a ha => ?_, fun k hk => ?_, ?_, fun a ha => ?_, fun k hk => ?_⟩
      · rw [f2 a (by omega) (by omega) (by omega) (by omega), f1 a (by omega)]
      · rw [mW_ne _ _ _ (by decide), mU_eq, show cpf (M2 122) (M2 120) 0 0 47 k = M2 122 k by rw [show k = 0 + k by omega, cpf_in hk], g2 122 (by decide) (by decide) (by decide) (by decide), t1 k hk]
      · rw [mW_ne _ _ _ (by decide), mU_ne _ _ (by decide)]
        have := D2.1.2.2.2.1
        rw [f2 34 (by omega) (by omega) (by omega) (by omega), f1 34 (by omega)] at this
        exact this
      · rw [mW_ne _ _ _ (by omega), mU_ne _ _ (by omega), g2 a (by omega) (by omega) (by omega) (by omega), g1 a (by omega)]
      · by_cases k5 : k = 5
        · rw [k5, mW_at, hM 119 (by decide)]
          exact h.2.2.2.2.2.1.1.symm
        · rw [mW_off _ _ k5, mU_ne _ _ (by decide), g2 119 (by decide) (by decide) (by decide) (by decide), k1 k (by omega) k5]
    have cA : ∀ v, (if x1 = 0 then some (C2 35 4, C2, 35) else if x1 = 1 then some (C2 35 5, C2, 35) else if x1 = 2 then (r7_flatOfAll C2 35).bind fun z2 => some (z2, C2, 35) else some (C2 35 9, C2, 35) : Option (Int32 × mI × Nat)) = some (v, C2, 35) → r9_goes I s (nI n) x1 = some (v, C2, 35) := fun v hv => by
      unfold r9_goes
      rw [if_neg a, if_neg b, if_neg c, if_pos d, s1, Option.bind_some, q1, Option.bind_some]
      exact hv
    have cB : ∀ v, (if x1 = 0 then some (M2 120 3) else if x1 = 1 then some (M2 120 4) else if x1 = 2 then (r10_flatOfAll M2).bind fun z3 => some z3 else some (M2 120 8) : Option Int32) = some v → r10_goes M (nI n) x1 = some (v, mW (mU M2 120 (cpf (M2 122) (M2 120) 0 0 47)) 119 5 0) := fun v hv => by
      unfold r10_goes
      rw [isIn_1 a b, if_neg one_n0, isIn_1 c (i32_nlt.mpr d), if_neg one_n0, s2, Option.bind_some, q2, Option.bind_some, hv, Option.bind_some, ends_e, Option.bind_some]
    by_cases z0 : x1 = 0
    · exact ⟨_, _, _, cA (M2 120 3) (by rw [if_pos z0, e4]), cB _ (by rw [if_pos z0]), hT⟩
    by_cases z1 : x1 = 1
    · exact ⟨_, _, _, cA (M2 120 4) (by rw [if_neg z0, if_pos z1, e5]), cB _ (by rw [if_neg z0, if_pos z1]), hT⟩
    by_cases z2 : x1 = 2
    · exact ⟨_, _, _, cA fl (by rw [if_neg z0, if_neg z1, if_pos z2, l1, Option.bind_some]), cB _ (by rw [if_neg z0, if_neg z1, if_pos z2, l2, Option.bind_some]), hT⟩
    · exact ⟨_, _, _, cA (M2 120 8) (by rw [if_neg z0, if_neg z1, if_neg z2, e9]), cB _ (by rw [if_neg z0, if_neg z1, if_neg z2]), hT⟩
  · refine bad ?_ ?_
    · unfold r9_goes; rw [if_neg a, if_neg b, if_neg c, if_neg d]
    · unfold r10_goes; rw [isIn_1 a b, if_neg one_n0, isIn_0b (i32_nle.mp d), if_pos rfl]
theorem op_undo : S_undo Inv := by
  intro I s h
  obtain ⟨u, f, hu, hf, e1, e2, e3, hs⟩ := h.2.1
  by_cases z : u = 0
  · subst z
    refine ex2 (v := 0) (v' := 0) (I1 := I) (I2 := mW I 119 0 0) ?_ ?_ rfl (Inv_told 0 h)
    · unfold r9_undo r3_goBack
      rw [e1, if_pos nI_0, Option.bind_some]
      show some ((0 : Int32) &&& 1, I) = _
      rw [and1_0]
    · unfold r10_undo
      rw [e2, if_pos nI_0]
  obtain ⟨w, rfl⟩ : ∃ w, u = w + 1 := ⟨u - 1, by omega⟩
  have ht : (f + w) % 6 < 6 := Nat.mod_lt _ (by decide)
  obtain ⟨J, j1, jf, j0, ja, jb, jc, jd⟩ := copy_e (mW I 77 2 (nI w)) (a := 3) (b := 79 + 5 * ((f + w) % 6)) (by omega)
  have i77 : ∀ a, a ≠ 77 → (mW I 77 2 (nI w)) a = I a := fun a ha => mW_ne _ _ _ ha
  have lo : ∀ a, ¬ (3 ≤ a ∧ a ≤ 7) → a ≠ 77 → J a = I a := fun a h1 h2 => by rw [jf a (by omega), i77 a h2]
  have c1 : r9_undo I = some (1, J) := by
    unfold r9_undo r3_goBack
    rw [e1, if_neg (nI_ne0 (by omega) (by omega)), e3, nI_pred, nI_add, show (6 : Int32) = nI 6 from rfl, nI_rem (by omega) (by decide) (by decide), ldP_e ht, Option.bind_some, j1, Option.bind_some, Option.bind_some]
    show some ((1 : Int32) &&& 1, J) = _
    rw [and1_1]
  have m0 : (mW (mW J 119 0 0) 119 3 (nI w)) 119 3 = nI w := mW_at _ _ _ _
  have m1 : l10_undo_26 FU 0 (mW (mW J 119 0 0) 119 3 (nI w)) = some (mU (mW (mW J 119 0 0) 119 3 (nI w)) 120 (cpf ((mW (mW J 119 0 0) 119 3 (nI w)) 121) ((mW (mW J 119 0 0) 119 3 (nI w)) 120) (47 * w) 0 47)) := by
    generalize mW (mW J 119 0 0) 119 3 (nI w) = Z at *
    refine cpl l10_undo_26 Z 121 120 (47 * w) 0 47 (by decide) (.inl (by decide)) (fun f I hI => ?_) (fun f k I hk hI => ?_)
    · rw [l10_undo_26, if_pos (by decide)]
    · rw [l10_undo_26, if_neg (show ¬ (47 : Int32) ≤ nI k from nI_ge (b := 47) hk (by decide)), hI 119 (by decide), m0, show (47 : Int32) = nI 47 from rfl, nI_mul, nI_add, mLd_n (by omega) (by decide), Option.bind_some, mSto_n hk (by decide), Option.bind_some, nI_1, Nat.zero_add]
  have c2 : r10_undo J = some (1, mU (mW (mW J 119 0 0) 119 3 (nI w)) 120 (cpf ((mW (mW J 119 0 0) 119 3 (nI w)) 121) ((mW (mW J 119 0 0) 119 3 (nI w)) 120) (47 * w) 0 47)) := by
    unfold r10_undo
    rw [lo 119 (by omega) (by decide), e2, if_neg (nI_ne0 (by omega) (by omega)), nI_pred, m1, Option.bind_some]
  refine ex2 c1 c2 rfl ?_
  have hM : ∀ a, a ≠ 119 → a ≠ 120 → (mU (mW (mW J 119 0 0) 119 3 (nI w)) 120 (cpf ((mW (mW J 119 0 0) 119 3 (nI w)) 121) ((mW (mW J 119 0 0) 119 3 (nI w)) 120) (47 * w) 0 47)) a = J a := fun a h1 h2 => by rw [mU_ne _ _ h2, mW_ne _ _ _ h1, mW_ne _ _ _ h1]
  have hK : ∀ k, k ≠ 0 → k ≠ 3 → (mU (mW (mW J 119 0 0) 119 3 (nI w)) 120 (cpf ((mW (mW J 119 0 0) 119 3 (nI w)) 121) ((mW (mW J 119 0 0) 119 3 (nI w)) 120) (47 * w) 0 47)) 119 k = I 119 k := fun k h0 h3 => by rw [mU_ne _ _ (by decide), mW_off _ _ h3, mW_off _ _ h0, lo 119 (by omega) (by decide)]
  have h3 : (mU (mW (mW J 119 0 0) 119 3 (nI w)) 120 (cpf ((mW (mW J 119 0 0) 119 3 (nI w)) 121) ((mW (mW J 119 0 0) 119 3 (nI w)) 120) (47 * w) 0 47)) 119 3 = nI w := by rw [mU_ne _ _ (by decide)]; exact m0
  have h120 : ∀ k, k < 47 → (mU (mW (mW J 119 0 0) 119 3 (nI w)) 120 (cpf ((mW (mW J 119 0 0) 119 3 (nI w)) 121) ((mW (mW J 119 0 0) 119 3 (nI w)) 120) (47 * w) 0 47)) 120 k = I 121 (47 * w + k) := fun k hk => by
    rw [mU_eq, show cpf ((mW (mW J 119 0 0) 119 3 (nI w)) 121) ((mW (mW J 119 0 0) 119 3 (nI w)) 120) (47 * w) 0 47 k = (mW (mW J 119 0 0) 119 3 (nI w)) 121 (47 * w + k) by rw [show k = 0 + k by omega, cpf_in hk, Nat.zero_add], mW_ne _ _ _ (by decide), mW_ne _ _ _ (by decide), lo 121 (by omega) (by decide)]
  generalize mU (mW (mW J 119 0 0) 119 3 (nI w)) 120 (cpf ((mW (mW J 119 0 0) 119 3 (nI w)) 121) ((mW (mW J 119 0 0) 119 3 (nI w)) 120) (47 * w) 0 47) = Z at *
  obtain ⟨sa, sb⟩ := hs w (by omega)
  refine Inv_S h h.2.2.2.2.2.2 ?_ (WfS_to sb h120) ?_ ?_ (fun a ha => ?_) (fun k hk => hK k (by omega) (by omega))
  · rw [hM 3 (by decide) (by decide), hM 4 (by decide) (by decide), hM 5 (by decide) (by decide), hM 6 (by decide) (by decide), hM 7 (by decide) (by decide)]
    rw [i77 (79 + 5 * ((f + w) % 6)) (by omega)] at j0
    rw [i77 (79 + 5 * ((f + w) % 6) + 1) (by omega)] at ja
    rw [i77 (79 + 5 * ((f + w) % 6) + 2) (by omega)] at jb
    rw [i77 (79 + 5 * ((f + w) % 6) + 3) (by omega)] at jc
    rw [i77 (79 + 5 * ((f + w) % 6) + 4) (by omega)] at jd
    exact RelS_to sa j0 ja jb jc jd h120
  · rw [hM 34 (by decide) (by decide), hM 128 (by decide) (by decide), lo 34 (by omega) (by decide), lo 128 (by omega) (by decide)]; exact h.1.2.2.2.2.2.2.2
  · refine ⟨w, f, by omega, hf, ?_, h3, ?_, fun j hj => ?_⟩
    · rw [hM 77 (by decide) (by decide), jf 77 (by omega), mW_at]
    · rw [hM 77 (by decide) (by decide), jf 77 (by omega), mW_off _ _ (by decide), e3]
    · have hj6 : (f + j) % 6 < 6 := Nat.mod_lt _ (by decide)
      have sl : ∀ i, i < 5 → Z (79 + 5 * ((f + j) % 6) + i) = I (79 + 5 * ((f + j) % 6) + i) := fun i hi => by rw [hM _ (by omega) (by omega), lo _ (by omega) (by omega)]
      have sl0 : Z (79 + 5 * ((f + j) % 6)) = I (79 + 5 * ((f + j) % 6)) := sl 0 (by decide)
      rw [sl0, sl 1 (by decide), sl 2 (by decide), sl 3 (by decide), sl 4 (by decide), hM 121 (by decide) (by decide), lo 121 (by omega) (by decide), hK 6 (by decide) (by decide), hK 7 (by decide) (by decide)]
      exact hs j (by omega)
  · by_cases z : a < 119
    · rw [hM a (by omega) (by omega), lo a (by omega) (by omega)]
    · rw [hM a (by omega) (by omega), lo a (by omega) (by omega)]

/-! BITS (the first family is of the kit's laws to paste), CHORDS -/
def bt (x : Int32) (i : Nat) : Bool := x.toBitVec.getLsbD i
theorem b_ext {x y : Int32} (h : ∀ i, i < 32 → bt x i = bt y i) : x = y := Int32.toBitVec_inj.mp (BitVec.eq_of_getLsbD_eq (fun i hi => h i hi))
theorem b_or (x y : Int32) (i : Nat) : bt (x ||| y) i = (bt x i || bt y i) := by unfold bt; rw [Int32.toBitVec_or, BitVec.getLsbD_or]
theorem b_and (x y : Int32) (i : Nat) : bt (x &&& y) i = (bt x i && bt y i) := by unfold bt; rw [Int32.toBitVec_and, BitVec.getLsbD_and]
theorem b_xor (x y : Int32) (i : Nat) : bt (x ^^^ y) i = (bt x i ^^ bt y i) := by unfold bt; rw [Int32.toBitVec_xor, BitVec.getLsbD_xor]
theorem b_big {x : Int32} {i : Nat} (h : 32 ≤ i) : bt x i = false := BitVec.getLsbD_of_ge _ _ h
theorem b_255 (i : Nat) : bt 255 i = decide (i < 8) := by
  rcases Nat.lt_or_ge i 32 with h | h
  · exact (by decide +kernel : ∀ i, i < 32 → bt 255 i = decide (i < 8)) i h
  · rw [b_big h, decide_eq_false (by omega)]
theorem b_65535 (i : Nat) : bt 65535 i = decide (i < 16) := by
  rcases Nat.lt_or_ge i 32 with h | h
  · exact (by decide +kernel : ∀ i, i < 32 → bt 65535 i = decide (i < 16)) i h
  · rw [b_big h, decide_eq_false (by omega)]
theorem b_m1 : ∀ i, i < 32 → bt (-1) i = true := by decide +kernel
theorem b_0 (i : Nat) : bt 0 i = false := BitVec.getLsbD_zero
theorem s_l : ∀ n, n < 32 → ((nI n &&& 31).toBitVec.smod 32).toNat = n := by decide +kernel
theorem s_u : ∀ n, n < 32 → (((nI n).toUInt32 &&& Int32.toUInt32 31).toBitVec % 32).toNat = n := by decide +kernel
theorem b_shl (n : Nat) (hn : n < 32) (x : Int32) {i : Nat} (hi : i < 32) : bt (x <<< (nI n &&& 31)) i = (decide (n ≤ i) && bt x (i - n)) := by
  unfold bt
  rw [Int32.toBitVec_shiftLeft]
  show (x.toBitVec <<< ((nI n &&& 31).toBitVec.smod 32).toNat).getLsbD i = _
  rw [s_l n hn, BitVec.getLsbD_shiftLeft]
  rcases Nat.lt_or_ge i n with h | h
  · simp [h, Nat.not_le.mpr h]
  · simp [hi, h, Nat.not_lt.mpr h]
theorem b_ushr (n : Nat) (hn : n < 32) (x : Int32) (i : Nat) : bt ((x.toUInt32 >>> ((nI n).toUInt32 &&& Int32.toUInt32 31)).toInt32) i = bt x (n + i) := by
  show (x.toUInt32 >>> ((nI n).toUInt32 &&& Int32.toUInt32 31)).toBitVec.getLsbD i = x.toUInt32.toBitVec.getLsbD (n + i)
  rw [UInt32.toBitVec_shiftRight]
  show (x.toUInt32.toBitVec >>> (((nI n).toUInt32 &&& Int32.toUInt32 31).toBitVec % 32).toNat).getLsbD i = _
  rw [s_u n hn, BitVec.getLsbD_ushiftRight]
theorem b_sshr (n : Nat) (hn : n < 32) (x : Int32) {i : Nat} (hi : i < 32) : bt (x >>> (nI n &&& 31)) i = if n + i < 32 then bt x (n + i) else bt x 31 := by
  unfold bt
  rw [Int32.toBitVec_shiftRight]
  show (x.toBitVec.sshiftRight ((nI n &&& 31).toBitVec.smod 32).toNat).getLsbD i = _
  rw [s_l n hn, BitVec.getLsbD_sshiftRight, BitVec.msb_eq_getLsbD_last]
  simp [hi]
theorem bt_nI {n i : Nat} (hi : i < 32) : bt (nI n) i = n.testBit i := by
  show (BitVec.ofNat 32 n).getLsbD i = _
  rw [BitVec.getLsbD_ofNat, decide_eq_true hi, Bool.true_and]
theorem bt_lt {n m i : Nat} (hn : n < 2 ^ m) (h : m ≤ i) : bt (nI n) i = false := by
  rcases Nat.lt_or_ge i 32 with hi | hi
  · rw [bt_nI hi]
    exact Nat.testBit_lt_two_pow (Nat.lt_of_lt_of_le hn (Nat.pow_le_pow_right (by decide) h))
  · exact b_big hi
theorem bt_1 : ∀ i, i < 32 → bt 1 i = decide (i = 0) := by decide +kernel
theorem bt_4095 : ∀ i, i < 32 → bt 4095 i = decide (i < 12) := by decide +kernel
theorem bit1 (x : Int32) {s : Nat} (hs : s < 32) : (x >>> (nI s &&& 31)) &&& 1 = if bt x s then 1 else 0 := by
  apply b_ext
  intro i hi
  rw [b_and, bt_1 i hi, b_sshr s hs x hi]
  by_cases e : i = 0
  · subst e
    rw [if_pos (by omega)]
    cases bt x s <;> rfl
  · rw [decide_eq_false e, Bool.and_false]
    cases bt x s
    · rw [if_neg (by decide), b_0]
    · rw [if_pos rfl, bt_1 i hi, decide_eq_false e]
theorem has_bt (x : Int32) {s : Nat} (hs : s < 32) : r10_has x (nI s) = if bt x s then 1 else 0 := by
  unfold r10_has
  rw [bit1 x hs]
  cases bt x s <;> rfl
theorem bt_rot {x : Int32} (hx : ∀ i, 12 ≤ i → bt x i = false) {r i : Nat} (hr : r < 12) (hi : i < 12) : bt (r2_movedBy x (nI r)) i = if r ≤ i then bt x (i - r) else bt x (12 - r + i) := by
  unfold r2_movedBy
  rw [show (12 : Int32) - nI r = nI (12 - r) from nI_sub (a := 12) (by omega), b_and, b_or, b_shl r (by omega) x (by omega), b_sshr (12 - r) (by omega) x (by omega), bt_4095 i (by omega), decide_eq_true hi, Bool.and_true, if_pos (by omega)]
  by_cases h : r ≤ i
  · rw [if_pos h, decide_eq_true h, Bool.true_and, hx (12 - r + i) (by omega), Bool.or_false]
  · rw [if_neg h, decide_eq_false h, Bool.false_and, Bool.false_or]
theorem ones_sm2 : ∀ a, a < 64 → ∀ b, b < 64 → l10_onesOf_4 13 0 (nI (64 * a + b)) = some (rJ6_bitCount (nI (64 * a + b))) := by decide +kernel
theorem ones_small (n : Nat) (h : n < 4096) : l10_onesOf_4 13 0 (nI n) = some (rJ6_bitCount (nI n)) := by
  have e := ones_sm2 (n / 64) (by omega) (n % 64) (by omega)
  rw [Nat.div_add_mod] at e
  exact e
theorem ones_mono : ∀ (f d : Nat) (a y v : Int32), l10_onesOf_4 f a y = some v → l10_onesOf_4 (f + d) a y = some v := by
  intro f
  induction f with
  | zero => intro d a y v h; cases h
  | succ f ih =>
    intro d a y v h
    rw [show f + 1 + d = (f + d) + 1 by omega, l10_onesOf_4]
    rw [l10_onesOf_4] at h
    by_cases e : y = 0
    · rw [if_pos e] at h ⊢; exact h
    · rw [if_neg e] at h ⊢; exact ih _ _ _ _ h
theorem ones_bc {n : Nat} (h : n < 4096) : r10_onesOf (nI n) = some (rJ6_bitCount (nI n)) := by
  unfold r10_onesOf
  rw [show FU = 13 + 9987 from rfl, ones_mono 13 9987 0 (nI n) _ (ones_small n h), Option.bind_some]
theorem and_4095 (x y : Int32) : ∃ n, n < 4096 ∧ x &&& (y &&& 4095) = nI n := by
  rw [← Int32.and_assoc, pk_and _ 12 (by decide)]
  exact ⟨_, Nat.mod_lt _ (by decide), rfl⟩
theorem moved_e (x y : Int32) : r10_movedUp x y = r2_movedBy x y := rfl
theorem held_e (x y : Int32) : r10_onesOf (x &&& r10_movedUp x y) = some (r2_heldBy x y) := by
  unfold r2_heldBy
  rw [moved_e]
  obtain ⟨n, hn, e⟩ := and_4095 x ((x <<< (y &&& 31)) ||| (x >>> ((12 - y) &&& 31)))
  have e2 : x &&& r2_movedBy x y = nI n := e
  rw [e2]
  exact ones_bc hn
theorem bestHold_e (x : Int32) : ∃ v, r2_bestHold x = some v ∧ r10_mostHeld x = some v := by
  obtain ⟨u, v, q1, q2, q3⟩ := loop2 (fun f k a => l2_bestHold_4 x f a (nI k)) (fun f k a => l10_mostHeld_4 x f a (nI k)) (fun _ a b => a = b) (fun u v => u = v) 12
    (fun a b e => ⟨a, b, fun f => by show l2_bestHold_4 _ (f + 1) _ _ = _; rw [l2_bestHold_4, if_pos (by decide)], fun f => by show l10_mostHeld_4 _ (f + 1) _ _ = _; rw [l10_mostHeld_4, if_pos (by decide)], e⟩)
    (fun k a b hk e => by
      subst e
      refine .inr ⟨if r2_heldBy x (nI k) ≤ r2_heldBy x a then a else nI k, _, fun f _ => ?_, fun f _ => ?_, rfl⟩
      · show l2_bestHold_4 _ (f + 1) _ _ = l2_bestHold_4 _ f _ _
        rw [l2_bestHold_4, if_neg (show ¬ (12 : Int32) ≤ nI k from nI_ge (b := 12) hk (by decide)), ite_some, Option.bind_some, nI_1]
      · show l10_mostHeld_4 _ (f + 1) _ _ = l10_mostHeld_4 _ f _ _
        rw [l10_mostHeld_4, if_neg (show ¬ (12 : Int32) ≤ nI k from nI_ge (b := 12) hk (by decide)), held_e, held_e, Option.bind_some, Option.bind_some, ite_some, Option.bind_some, nI_1]) 10 2 FU FU 1 1 (by omega) (FU_lt (by omega)) (FU_lt (by omega)) rfl
  subst q3
  refine ⟨u, ?_, ?_⟩
  · unfold r2_bestHold
    rw [show l2_bestHold_4 x FU 1 2 = some u from q1, Option.bind_some]
  · unfold r10_mostHeld
    rw [show l10_mostHeld_4 x FU 1 2 = some u from q2, Option.bind_some]
theorem turned_e (x : Int32) : ∃ v, r2_turnedOver x = some v ∧ r10_turnedOver x = some v := by
  obtain ⟨u, v, q1, q2, q3⟩ := loop2 (fun f k a => l2_turnedOver_4 x f a (nI k)) (fun f k a => l10_turnedOver_4 x f a (nI k)) (fun _ a b => a = b) (fun u v => u = v) 12
    (fun a b e => ⟨a, b, fun f => by show l2_turnedOver_4 _ (f + 1) _ _ = _; rw [l2_turnedOver_4, if_pos (by decide)], fun f => by show l10_turnedOver_4 _ (f + 1) _ _ = _; rw [l10_turnedOver_4, if_pos (by decide)], e⟩)
    (fun k a b hk e => by
      subst e
      refine .inr ⟨if (if bt x k then (1 : Int32) else 0) = 0 then a else a ||| ((1 : Int32) <<< ((mRm (12 - nI k) 12) &&& 31)), _, fun f _ => ?_, fun f _ => ?_, rfl⟩
      · show l2_turnedOver_4 _ (f + 1) _ _ = l2_turnedOver_4 _ f _ _
        rw [l2_turnedOver_4, if_neg (show ¬ (12 : Int32) ≤ nI k from nI_ge (b := 12) hk (by decide)), bit1 x (by omega), ite_some, Option.bind_some, nI_1]
      · show l10_turnedOver_4 _ (f + 1) _ _ = l10_turnedOver_4 _ f _ _
        rw [l10_turnedOver_4, if_neg (show ¬ (12 : Int32) ≤ nI k from nI_ge (b := 12) hk (by decide)), has_bt x (by omega), ite_some, Option.bind_some, nI_1]) 12 0 FU FU 0 0 (by omega) (FU_lt (by omega)) (FU_lt (by omega)) rfl
  subst q3
  refine ⟨u, ?_, ?_⟩
  · unfold r2_turnedOver
    rw [show l2_turnedOver_4 x FU 0 0 = some u from q1, Option.bind_some]
  · unfold r10_turnedOver
    rw [show l10_turnedOver_4 x FU 0 0 = some u from q2, Option.bind_some]
theorem moved_to_e (x y : Int32) : ∃ v, r2_movedTo x y = some v ∧ r10_stepsUp x y = some v := by
  obtain ⟨u, v, q1, q2, q3⟩ := loop2 (fun f k (_ : Unit) => l2_movedTo_2 x y f (nI k)) (fun f k (_ : Unit) => l10_stepsUp_2 x y f (nI k)) (fun _ _ _ => True) (fun u v => u = v) 12
    (fun a b e => ⟨.inr (), .inr (), fun f => by show l2_movedTo_2 _ _ (f + 1) _ = _; rw [l2_movedTo_2, if_pos (by decide)], fun f => by show l10_stepsUp_2 _ _ (f + 1) _ = _; rw [l10_stepsUp_2, if_pos (by decide)], rfl⟩)
    (fun k a b hk e => by
      by_cases z : r2_movedBy x (nI k) = y
      · refine .inl ⟨.inl (nI k), .inl (nI k), fun f => ?_, fun f => ?_, rfl⟩
        · show l2_movedTo_2 _ _ (f + 1) _ = _
          rw [l2_movedTo_2, if_neg (show ¬ (12 : Int32) ≤ nI k from nI_ge (b := 12) hk (by decide)), if_pos z]
        · show l10_stepsUp_2 _ _ (f + 1) _ = _
          rw [l10_stepsUp_2, if_neg (show ¬ (12 : Int32) ≤ nI k from nI_ge (b := 12) hk (by decide)), moved_e, if_pos z]
      · refine .inr ⟨(), (), fun f _ => ?_, fun f _ => ?_, trivial⟩
        · show l2_movedTo_2 _ _ (f + 1) _ = l2_movedTo_2 _ _ f _
          rw [l2_movedTo_2, if_neg (show ¬ (12 : Int32) ≤ nI k from nI_ge (b := 12) hk (by decide)), if_neg z, nI_1]
        · show l10_stepsUp_2 _ _ (f + 1) _ = l10_stepsUp_2 _ _ f _
          rw [l10_stepsUp_2, if_neg (show ¬ (12 : Int32) ≤ nI k from nI_ge (b := 12) hk (by decide)), moved_e, if_neg z, nI_1]) 12 0 FU FU () () (by omega) (FU_lt (by omega)) (FU_lt (by omega)) trivial
  subst q3
  have q1' : l2_movedTo_2 x y FU 0 = some u := q1
  have q2' : l10_stepsUp_2 x y FU 0 = some u := q2
  unfold r2_movedTo r10_stepsUp
  rw [q1', q2']
  cases u with
  | inl w => exact ⟨w, rfl, rfl⟩
  | inr w => exact ⟨-1, rfl, rfl⟩
theorem lesser_min (x y : Int32) : r10_lesser x y = mMin x y := by
  unfold r10_lesser mMin
  by_cases a : y < x
  · rw [if_pos a, if_pos (by rw [i32_le]; rw [i32_lt] at a; omega)]
  · rw [if_neg a]
    by_cases b : y ≤ x
    · rw [if_pos b, i32_eq]
      rw [i32_lt] at a; rw [i32_le] at b; omega
    · rw [if_neg b]
theorem high_e {x : Int32} (hx : ∀ i, 12 ≤ i → bt x i = false) {t : Nat} (ht : t < 12) : ∃ v, r2_highestOf (r2_movedBy x (mRm (12 - nI t) 12)) = some v ∧ l10_spanOf_29 x (nI t) FU 0 1 = some v := by
  have e12 : mRm (12 - nI t) 12 = nI ((12 - t) % 12) := by
    rw [show (12 : Int32) - nI t = nI (12 - t) from nI_sub (a := 12) (by omega)]
    exact nI_rem (b := 12) (by omega) (by decide) (by decide)
  rw [e12]
  have hb : ∀ i, i < 12 → bt (r2_movedBy x (nI ((12 - t) % 12))) i = bt x ((t + i) % 12) := by
    intro i hi
    rw [bt_rot hx (Nat.mod_lt _ (by decide)) hi]
    split <;> congr 1 <;> omega
  obtain ⟨u, v, q1, q2, q3⟩ := loop2 (fun f k a => l2_highestOf_4 (r2_movedBy x (nI ((12 - t) % 12))) f a (nI k)) (fun f k a => l10_spanOf_29 x (nI t) f a (nI k)) (fun _ a b => a = b) (fun u v => u = v) 12
    (fun a b e => ⟨a, b, fun f => by show l2_highestOf_4 _ (f + 1) _ _ = _; rw [l2_highestOf_4, if_pos (by decide)], fun f => by show l10_spanOf_29 _ _ (f + 1) _ _ = _; rw [l10_spanOf_29, if_pos (by decide)], e⟩)
    (fun k a b hk e => by
      subst e
      refine .inr ⟨if (if bt x ((t + k) % 12) then (1 : Int32) else 0) = 0 then a else nI k, _, fun f _ => ?_, fun f _ => ?_, rfl⟩
      · show l2_highestOf_4 _ (f + 1) _ _ = l2_highestOf_4 _ f _ _
        rw [l2_highestOf_4, if_neg (show ¬ (12 : Int32) ≤ nI k from nI_ge (b := 12) hk (by decide)), bit1 _ (by omega), hb k hk, ite_some, Option.bind_some, nI_1]
      · show l10_spanOf_29 _ _ (f + 1) _ _ = l10_spanOf_29 _ _ f _ _
        rw [l10_spanOf_29, if_neg (show ¬ (12 : Int32) ≤ nI k from nI_ge (b := 12) hk (by decide)), nI_add, show mRm (nI (t + k)) 12 = nI ((t + k) % 12) from nI_rem (b := 12) (by omega) (by decide) (by decide), has_bt x (by omega), ite_some, Option.bind_some, nI_1]) 11 1 FU FU 0 0 (by omega) (FU_lt (by omega)) (FU_lt (by omega)) rfl
  subst q3
  refine ⟨u, ?_, q2⟩
  unfold r2_highestOf
  rw [show l2_highestOf_4 (r2_movedBy x (nI ((12 - t) % 12))) FU 0 1 = some u from q1, Option.bind_some]
theorem span_e {x : Int32} (hx : ∀ i, 12 ≤ i → bt x i = false) : ∃ v, r2_spanOf x = some v ∧ r10_spanOf x = some v := by
  obtain ⟨u, v, q1, q2, q3⟩ := loop2 (fun f k a => l2_spanOf_5 x f a (nI k)) (fun f k a => l10_spanOf_5 x f a (nI k)) (fun _ a b => a = b) (fun u v => u = v) 12
    (fun a b e => ⟨a, b, fun f => by show l2_spanOf_5 _ (f + 1) _ _ = _; rw [l2_spanOf_5, if_pos (by decide)], fun f => by show l10_spanOf_5 _ (f + 1) _ _ = _; rw [l10_spanOf_5, if_pos (by decide)], e⟩)
    (fun k a b hk e => by
      subst e
      obtain ⟨w, w1, w2⟩ := high_e hx hk
      refine .inr ⟨if (if bt x k then (1 : Int32) else 0) = 0 then a else mMin a w, _, fun f _ => ?_, fun f _ => ?_, rfl⟩
      · show l2_spanOf_5 _ (f + 1) _ _ = l2_spanOf_5 _ f _ _
        rw [l2_spanOf_5, if_neg (show ¬ (12 : Int32) ≤ nI k from nI_ge (b := 12) hk (by decide)), bit1 _ (by omega), w1, Option.bind_some, ite_some, Option.bind_some, nI_1]
      · show l10_spanOf_5 _ (f + 1) _ _ = l10_spanOf_5 _ f _ _
        rw [l10_spanOf_5, if_neg (show ¬ (12 : Int32) ≤ nI k from nI_ge (b := 12) hk (by decide)), has_bt x (by omega), w2, Option.bind_some, ite_some, Option.bind_some, lesser_min, nI_1]) 12 0 FU FU 12 12 (by omega) (FU_lt (by omega)) (FU_lt (by omega)) rfl
  subst q3
  refine ⟨u, ?_, ?_⟩
  · unfold r2_spanOf
    rw [show l2_spanOf_5 x FU 12 0 = some u from q1, Option.bind_some]
  · unfold r10_spanOf
    rw [show l10_spanOf_5 x FU 12 0 = some u from q2, Option.bind_some]
theorem chord_e (x : Int32) : r2_isChord x = r10_isIn x 1 4095 := by
  unfold r2_isChord r10_isIn
  by_cases a : x ≤ 0
  · rw [if_pos a, if_pos (by rw [i32_le, show (0 : Int32).toInt = 0 by decide] at a; rw [i32_lt, show (1 : Int32).toInt = 1 by decide]; omega)]
  · rw [if_neg a, if_neg (show ¬ x < 1 by rw [i32_le, show (0 : Int32).toInt = 0 by decide] at a; rw [i32_lt, show (1 : Int32).toInt = 1 by decide]; omega)]
theorem op_chords : S_chords Inv := by
  intro I s h x0 x1 x2
  unfold r9_chords r10_chords
  rw [chord_e, chord_e]
  by_cases c1 : r10_isIn x0 1 4095 = 0
  · rw [if_pos c1, if_pos c1]
    exact ex1 rfl rfl rfl (Inv_told 0 h)
  rw [if_neg c1, if_neg c1]
  obtain ⟨a1, a2⟩ := isIn_yes c1
  obtain ⟨n, hn, rfl⟩ := nI_of2 (M := 4095) (n := 4095) (by decide) (lt0_of (c := 1) (by decide) a1) (i32_nlt.mp a2)
  have hx : ∀ i, 12 ≤ i → bt (nI n) i = false := fun i hi => bt_lt (m := 12) (by omega) hi
  by_cases c2 : x2 < 0
  · rw [if_pos c2, isIn_0a c2, if_pos rfl]
    exact ex1 rfl rfl rfl (Inv_told 0 h)
  by_cases c3 : (4 : Int32) < x2
  · rw [if_neg c2, if_pos c3, isIn_0b c3, if_pos rfl]
    exact ex1 rfl rfl rfl (Inv_told 0 h)
  rw [if_neg c2, if_neg c3, isIn_1 c2 c3, if_neg one_n0]
  obtain ⟨b, b1, b2⟩ := bestHold_e (nI n)
  obtain ⟨t, t1, t2⟩ := turned_e (nI n)
  obtain ⟨p, p1, p2⟩ := span_e hx
  obtain ⟨m, m1, m2⟩ := moved_to_e (nI n) x1
  obtain ⟨o, o1, o2⟩ := moved_to_e t x1
  simp only [b1, b2, t1, t2, p1, p2, m1, m2, o1, o2, Option.bind_some, held_e, ite_some]
  by_cases c4 : (2 : Int32) ≤ x2
  · have z0 : ¬ x2 = 0 := fun q => by subst q; exact absurd c4 (by decide)
    have z1 : ¬ x2 = 1 := fun q => by subst q; exact absurd c4 (by decide)
    simp only [if_pos c4, if_neg z0, if_neg z1]
    exact ex1 rfl rfl rfl (Inv_told 0 h)
  · have z2 : ¬ x2 = 2 := fun q => by subst q; exact absurd (by decide) c4
    have z3 : ¬ x2 = 3 := fun q => by subst q; exact absurd (by decide) c4
    by_cases c5 : r10_isIn x1 1 4095 = 0
    · simp only [if_neg c4, if_pos c5]
      exact ex1 rfl rfl rfl (Inv_told 0 h)
    simp only [if_neg c4, if_neg c5]
    by_cases z0 : x2 = 0
    · subst z0
      simp only [reduceIte, m2, Option.bind_some]
      exact ex1 rfl rfl rfl (Inv_told 0 h)
    · have z1 : x2 = 1 := by
        rw [i32_lt, show (0 : Int32).toInt = 0 by decide] at c2
        rw [i32_le, show (2 : Int32).toInt = 2 by decide] at c4
        rw [i32_eq, show (0 : Int32).toInt = 0 by decide] at z0
        rw [i32_eq, show (1 : Int32).toInt = 1 by decide]
        omega
      subst z1
      simp only [if_neg one_n0, reduceIte, o2, Option.bind_some]
      exact ex1 rfl rfl rfl (Inv_told 0 h)

/-! FEED, PERIOD, TONE, PEDAL, BOOK -/
theorem i255 : (255 : Int32).toBitVec.toNat = 2 ^ 8 - 1 := by decide
theorem shr_nat (x : Int32) (s : Int32) (k : Nat) (hs : (s.toBitVec.smod 32).toNat = k) : ((x >>> s).toBitVec.toNat : Int) = (x.toInt >>> k) % 2 ^ 32 := by
  have h := pk_shr x s k hs
  have h2 : (x >>> s).toInt = (x >>> s).toBitVec.toInt := rfl
  rw [← h, h2, BitVec.toInt_eq_toNat_cond]
  have h3 := (x >>> s).toBitVec.isLt
  split <;> omega
theorem nat_toInt (x : Int32) : (x.toBitVec.toNat : Int) = x.toInt % 2 ^ 32 := by
  have h2 : x.toInt = x.toBitVec.toInt := rfl
  rw [h2, BitVec.toInt_eq_toNat_cond]
  have h3 := x.toBitVec.isLt
  split <;> omega
theorem byte_eq (x z : Int32) (k : Nat) (hk : k ≤ 24) (h1 : ((z &&& 31).toBitVec.smod 32).toNat = k) (h2 : ((z.toUInt32 &&& Int32.toUInt32 31).toBitVec % 32).toNat = k) : mUsh x z &&& 255 = (x >>> (z &&& 31)) &&& 255 := by
  unfold mUsh
  rw [pk_and _ 8 i255, pk_and _ 8 i255, pk_ushr x z k h2]
  congr 1
  have a := shr_nat x (z &&& 31) k h1
  have b := nat_toInt x
  rw [Int.shiftRight_eq_div_pow] at a
  have : k = 0 ∨ k = 1 ∨ k = 2 ∨ k = 3 ∨ k = 4 ∨ k = 5 ∨ k = 6 ∨ k = 7 ∨ k = 8 ∨ k = 9 ∨ k = 10 ∨ k = 11 ∨ k = 12 ∨ k = 13 ∨ k = 14 ∨ k = 15 ∨ k = 16 ∨ k = 17 ∨ k = 18 ∨ k = 19 ∨ k = 20 ∨ k = 21 ∨ k = 22 ∨ k = 23 ∨ k = 24 := by omega
  generalize (x >>> (z &&& 31)).toBitVec.toNat = A at *
  generalize x.toBitVec.toNat = B at *
  generalize x.toInt = t at *
  rcases this with e | e | e | e | e | e | e | e | e | e | e | e | e | e | e | e | e | e | e | e | e | e | e | e | e <;> subst e <;> omega
theorem bd_byte (x : Int32) : bd (x &&& 255) 255 := by
  rw [pk_and _ 8 i255]
  exact ⟨_, by omega, rfl⟩
def tpx (I : mI) (a b i : Nat) (R : Nat → Int32) (y : Int32) : mI := mU (mU I a R) b (mU (I b) i y)
theorem tpx_step (I : mI) {a b : Nat} (i m : Nat) (R : Nat → Int32) (y y' v : Int32) (hab : a ≠ b) : mW (mW (tpx I a b i R y) a m v) b i y' = tpx I a b i (mU R m v) y' := by
  funext c j
  unfold tpx mW mU
  by_cases h1 : c = b
  · subst h1
    simp only [reduceIte, if_neg (Ne.symm hab)]
    by_cases h2 : j = i
    · simp only [h2, reduceIte]
    · simp only [if_neg h2]
  · by_cases h2 : c = a
    · subst h2
      simp only [if_neg h1, reduceIte]
    · simp only [if_neg h1, if_neg h2]
theorem tpx_0 (I : mI) {a b i : Nat} (hab : a ≠ b) : tpx I a b i (I a) (I b i) = I := by
  unfold tpx
  rw [mU_self, mU_self, mU_self]
theorem tpx_b (I : mI) {a b i : Nat} {R : Nat → Int32} {y : Int32} : tpx I a b i R y b i = y := by
  unfold tpx
  rw [mU_eq, mU_eq]
def by4 (x z : Int32) : Int32 := (x >>> (z &&& 31)) &&& 255
def wr4 (R : Nat → Int32) (n : Nat) (x : Int32) : Nat → Int32 := mU (mU (mU (mU R n (by4 x 24)) (n + 1) (by4 x 16)) (n + 2) (by4 x 8)) (n + 3) (by4 x 0)
theorem take_step {I : mI} {R : Nat → Int32} {m : Nat} (hm : m < 400) (x z z' : Int32) (f k : Nat) (hz : ¬ z < 0) (hz' : z + -8 = z') (hk : k ≤ 24) (h1 : ((z &&& 31).toBitVec.smod 32).toNat = k) (h2 : ((z.toUInt32 &&& Int32.toUInt32 31).toBitVec % 32).toNat = k) : l4_takeNumber_3 x (f + 1) z (tpx I 110 109 1 R (nI m)) = l4_takeNumber_3 x f z' (tpx I 110 109 1 (mU R m (by4 x z)) (nI (m + 1))) := by
  rw [l4_takeNumber_3, if_neg hz, tpx_b, if_neg (show ¬ (400 : Int32) ≤ nI m from nI_ge (b := 400) hm (by decide)), mSto_n hm (by decide), Option.bind_some, Option.bind_some, byte_eq x z k hk h1 h2, hz']
  congr 1
  rw [mW_ne _ _ _ (show (109 : Nat) ≠ 110 by decide), tpx_b, nI_1]
  exact tpx_step I 1 m R _ _ _ (by decide)
theorem type_step {I : mI} {R : Nat → Int32} {m : Nat} (hm : m < 400) (x z z' : Int32) (f : Nat) (hz : ¬ z < 0) (hz' : z + -8 = z') : l10_types_3 x (f + 1) z (tpx I 129 119 15 R (nI m)) = l10_types_3 x f z' (tpx I 129 119 15 (mU R m (by4 x z)) (nI (m + 1))) := by
  rw [l10_types_3, if_neg hz, tpx_b, mSto_n hm (by decide), Option.bind_some, hz']
  congr 1
  rw [mW_ne _ _ _ (show (119 : Nat) ≠ 129 by decide), tpx_b, nI_1]
  exact tpx_step I 15 m R _ _ _ (by decide)
theorem take_4 {I : mI} {R : Nat → Int32} {m : Nat} (hm : m + 4 ≤ 400) (x : Int32) : r4_takeNumber (tpx I 110 109 1 R (nI m)) x = some (tpx I 110 109 1 (wr4 R m x) (nI (m + 4))) := by
  unfold r4_takeNumber
  rw [show FU = 9995 + 1 + 1 + 1 + 1 + 1 from rfl, take_step (by omega) x 24 16 _ 24 (by decide) (by decide) (by decide) (by decide) (by decide), take_step (by omega) x 16 8 _ 16 (by decide) (by decide) (by decide) (by decide) (by decide), take_step (by omega) x 8 0 _ 8 (by decide) (by decide) (by decide) (by decide) (by decide), take_step (by omega) x 0 (-8) _ 0 (by decide) (by decide) (by decide) (by decide) (by decide), l4_takeNumber_3, if_pos (by decide)]
  rfl
theorem type_4 {I : mI} {R : Nat → Int32} {m : Nat} (hm : m + 4 ≤ 400) (x : Int32) : r10_types (tpx I 129 119 15 R (nI m)) x = some (tpx I 129 119 15 (wr4 R m x) (nI (m + 4))) := by
  unfold r10_types
  rw [show FU = 9995 + 1 + 1 + 1 + 1 + 1 from rfl, type_step (by omega) x 24 16 _ (by decide) (by decide), type_step (by omega) x 16 8 _ (by decide) (by decide), type_step (by omega) x 8 0 _ (by decide) (by decide), type_step (by omega) x 0 (-8) _ (by decide) (by decide), l10_types_3, if_pos (by decide)]
  rfl
theorem wr4_eq {R T : Nat → Int32} (h : eqOn 400 R T) (n : Nat) (x : Int32) : eqOn 400 (wr4 R n x) (wr4 T n x) := eqOn_up (eqOn_up (eqOn_up (eqOn_up h _ _) _ _) _ _) _ _
theorem wr4_bd {R : Nat → Int32} (h : ∀ k, k < 400 → bd (R k) 255) (n : Nat) (x : Int32) : ∀ k, k < 400 → bd (wr4 R n x k) 255 := up_all (P := fun x => bd x 255) (up_all (P := fun x => bd x 255) (up_all (P := fun x => bd x 255) (up_all (P := fun x => bd x 255) h _ (bd_byte _)) _ (bd_byte _)) _ (bd_byte _)) _ (bd_byte _)
theorem op_feed : S_feed Inv := by
  intro I s h x0 x1 x2 x3 x4
  obtain ⟨n, hn, e1, e2, e3, e4⟩ := h.2.2.2.1
  by_cases a : n ≤ 380
  · have a1 : r4_hasRoomFor I 20 = 1 := by
      unfold r4_hasRoomFor
      rw [e1, show (20 : Int32) = nI 20 by decide, nI_add, if_neg (show ¬ (400 : Int32) < nI (n + 20) from nI_nlt (b := n + 20) (a := 400) (by omega) (by decide))]
    have g1 : r9_feed I x0 x1 x2 x3 x4 = some (nI (n + 20), tpx I 110 109 1 (wr4 (wr4 (wr4 (wr4 (wr4 (I 110) n x0) (n + 4) x1) (n + 8) x2) (n + 12) x3) (n + 16) x4) (nI (n + 20))) := by
      unfold r9_feed
      rw [a1, if_neg one_n0]
      conv => lhs; rw [← tpx_0 I (show 110 ≠ 109 by decide) (i := 1), e1]
      rw [take_4 (by omega), Option.bind_some, take_4 (by omega), Option.bind_some, take_4 (by omega), Option.bind_some, take_4 (by omega), Option.bind_some, take_4 (by omega), Option.bind_some, tpx_b]
    generalize hJ : tpx I 110 109 1 (wr4 (wr4 (wr4 (wr4 (wr4 (I 110) n x0) (n + 4) x1) (n + 8) x2) (n + 12) x3) (n + 16) x4) (nI (n + 20)) = J at g1
    have hJ2 : ∀ c, c ≠ 110 → c ≠ 109 → J c = I c := fun c c1 c2 => by rw [← hJ]; unfold tpx; rw [mU_ne _ _ c2, mU_ne _ _ c1]
    have f1 : J 119 15 = nI n := by rw [hJ2 119 (by decide) (by decide), e2]
    have f2 : J 129 = I 129 := hJ2 129 (by decide) (by decide)
    refine ⟨nI (n + 20), J, tpx (mW J 119 0 0) 129 119 15 (wr4 (wr4 (wr4 (wr4 (wr4 (I 129) n x0) (n + 4) x1) (n + 8) x2) (n + 12) x3) (n + 16) x4) (nI (n + 20)), g1, ?_, ?_⟩
    · unfold r10_feed
      rw [f1, if_pos (show nI n ≤ (380 : Int32) from nI_le (b := 380) a (by decide))]
      have q : mW J 119 0 0 = tpx (mW J 119 0 0) 129 119 15 (I 129) (nI n) := by
        conv => lhs; rw [← tpx_0 (mW J 119 0 0) (show 129 ≠ 119 by decide) (i := 15)]
        rw [mW_ne _ _ _ (show 129 ≠ 119 by decide), f2, mW_off _ _ (show 15 ≠ 0 by decide), f1]
      conv => lhs; rw [q]
      rw [type_4 (by omega), Option.bind_some, type_4 (by omega), Option.bind_some, type_4 (by omega), Option.bind_some, type_4 (by omega), Option.bind_some, type_4 (by omega), Option.bind_some, tpx_b]
    · subst hJ
      exact ⟨h.1, RelU_congr (I := I) (fun c h1 h2 => by unfold tpx; rw [mU_ne _ _ (by omega), mU_ne _ _ (by omega), mW_ne _ _ _ (by omega), mU_ne _ _ (by omega), mU_ne _ _ (by omega)]) rfl rfl rfl rfl h.2.1, h.2.2.1, ⟨n + 20, by omega, rfl, rfl, wr4_eq (wr4_eq (wr4_eq (wr4_eq (wr4_eq e3 _ _) _ _) _ _) _ _) _ _, wr4_bd (wr4_bd (wr4_bd (wr4_bd (wr4_bd e4 _ _) _ _) _ _) _ _) _ _⟩, h.2.2.2.2.1, h.2.2.2.2.2.1, h.2.2.2.2.2.2⟩
  · have a1 : r4_hasRoomFor I 20 = 0 := by
      unfold r4_hasRoomFor
      rw [e1, show (20 : Int32) = nI 20 by decide, nI_add, if_pos (show (400 : Int32) < nI (n + 20) from nI_lt (a := 400) (by omega) (by omega))]
    refine ⟨-1, I, mW I 119 0 0, ?_, ?_, Inv_told 0 h⟩
    · unfold r9_feed
      rw [a1, if_pos rfl]
    · unfold r10_feed
      rw [e2, if_neg (show ¬ nI n ≤ (380 : Int32) from nI_ge (a := 380) (by omega) (by omega))]
theorem op_period : S_period Inv := by
  intro I s h x0 x1
  have fail : r9_period I x0 x1 = some (0, I) → r10_period I x0 x1 = some (0, mW I 119 0 0) → ∃ v I1 I2, r9_period I x0 x1 = some (v, I1) ∧ r10_period I1 x0 x1 = some (v, I2) ∧ Inv I2 s := fun g1 g2 => ⟨0, I, _, g1, g2, Inv_told 0 h⟩
  unfold r9_period r10_period r10_isString r10_isIn at *
  by_cases c1 : x0 < 0
  · exact fail (by simp only [if_pos c1]) (by simp only [if_pos c1, reduceIte])
  by_cases c2 : (8 : Int32) ≤ x0
  · exact fail (by simp only [if_neg c1, if_pos c2]) (by simp only [if_neg c1, if_pos c2, reduceIte])
  by_cases c3 : x1 < 1
  · exact fail (by simp only [if_neg c1, if_neg c2, if_pos c3]) (by simp only [if_neg c1, if_neg c2, if_neg one_n0, if_pos c3, reduceIte])
  by_cases c4 : (99 : Int32) < x1
  · have c4' : ¬ x1 ≤ 99 := i32_nle.mpr c4
    exact fail (by simp only [if_neg c1, if_neg c2, if_neg c3, if_neg c4']) (by simp only [if_neg c1, if_neg c2, if_neg one_n0, if_neg c3, if_pos c4, reduceIte])
  clear fail
  have c4' : x1 ≤ 99 := i32_nlt.mp c4
  obtain ⟨k, hk, rfl⟩ := ix_of (n := 8) c1 c2 (by decide)
  refine ⟨1, mW I 29 k x1, mW (mW (mW I 29 k x1) 119 0 0) 149 k (x1 - 1), ?_, ?_, ?_⟩
  · simp only [if_neg c1, if_neg c2, if_neg c3, if_pos c4', mSto_n hk (show 8 < 2 ^ 31 by decide), Option.bind_some]
  · simp only [if_neg c1, if_neg c2, if_neg c3, if_neg c4, if_neg one_n0, mSto_n hk (show 8 < 2 ^ 31 by decide), Option.bind_some]
  · obtain ⟨hS, hC, hP, hK, hL, hLaw, ⟨⟨r1, r2, r3, r4, r5, r6, r7⟩, w1, w2, w3, w4, w5, w6, w7⟩, hB⟩ := h.1
    refine Inv_keepU h ?_ (fun a h1 h2 => by rw [mW_ne _ _ _ (by omega), mW_ne _ _ _ (by omega), mW_ne _ _ _ (by omega)]) rfl rfl rfl rfl h.2.2.1 h.2.2.2.1 h.2.2.2.2.1 h.2.2.2.2.2.1
    refine ⟨hS, hC, hP, hK, hL, hLaw, ⟨⟨r1, r2, r3, fun j hj => ?_, r5, r6, r7⟩, w1, w2, w3, up_all (P := fun x => bd x 98) w4 k ?_, w5, w6, w7⟩, hB⟩
    · show mU (I 29) k x1 j = mU (I 149) k (x1 - 1) j + 1
      unfold mU
      by_cases e : j = k
      · rw [if_pos e, if_pos e, Int32.sub_add_cancel]
      · rw [if_neg e, if_neg e]; exact r4 j hj
    · obtain ⟨q, hq, rfl⟩ := nI_of2 (M := 99) (n := 99) (by decide) (lt0_of (c := 1) (by decide) c3) c4'
      have : 1 ≤ q := by
        rw [i32_lt, nI_toInt (by omega), show (1 : Int32).toInt = 1 by decide] at c3
        omega
      obtain ⟨r, rfl⟩ : ∃ r, q = r + 1 := ⟨q - 1, by omega⟩
      exact ⟨r, by omega, nI_pred r⟩
theorem op_tone : S_tone Inv := by
  intro I s h x0
  obtain ⟨hS, hC, hP, hK, hL, hLaw, ⟨⟨r1, r2, r3, r4, r5, r6, r7⟩, ⟨n, hn, en⟩, w2, w3, w4, w5, w6, w7⟩, hB⟩ := h.1
  have en1 : I 27 5 = nI n := by rw [r1, en]
  have fail : r9_tone I x0 = some (-1, I) → r10_tone I x0 = some (-1, mW I 119 0 0) → ∃ v I1 I2, r9_tone I x0 = some (v, I1) ∧ r10_tone I1 x0 = some (v, I2) ∧ Inv I2 s := fun g1 g2 => ⟨-1, I, _, g1, g2, Inv_told 0 h⟩
  unfold r9_tone r1_addTone r10_tone r10_isIn at *
  by_cases c0 : x0 = -1
  · refine ⟨0, mW I 27 5 0, mW (mW (mW I 27 5 0) 119 0 0) 119 48 0, ?_, ?_, ?_⟩
    · simp only [if_pos c0, Option.bind_some]
    · simp only [if_pos c0]
    · refine Inv_keepU h ?_ (fun a h1 h2 => by rw [mW_ne _ _ _ (by omega), mW_ne _ _ _ (by omega), mW_ne _ _ _ (by omega)]) rfl rfl rfl rfl h.2.2.1 h.2.2.2.1 h.2.2.2.2.1 h.2.2.2.2.2.1
      exact ⟨hS, hC, hP, hK, hL, hLaw, ⟨⟨rfl, r2, r3, r4, r5, r6, r7⟩, ⟨0, by decide, rfl⟩, w2, w3, w4, w5, w6, w7⟩, hB⟩
  by_cases c1 : x0 < 0
  · exact fail (by simp only [if_neg c0, if_pos c1, Option.bind_some]) (by simp only [if_neg c0, if_pos c1, reduceIte])
  by_cases c2 : (60 : Int32) < x0
  · exact fail (by simp only [if_neg c0, if_neg c1, if_pos c2, Option.bind_some]) (by simp only [if_neg c0, if_neg c1, if_pos c2, reduceIte])
  by_cases c7 : n = 16
  · have c7a : ¬ (nI n < 16) := by rw [nI_ltk 16 16 rfl (by decide) (by omega)]; omega
    have c7b : nI n = 16 := by rw [c7]; rfl
    exact fail (by simp only [if_neg c0, if_neg c1, if_neg c2, en1, if_neg c7a, Option.bind_some]) (by simp only [if_neg c0, if_neg c1, if_neg c2, if_neg one_n0, en, if_pos c7b])
  clear fail
  have c7a : nI n < 16 := by rw [nI_ltk 16 16 rfl (by decide) (by omega)]; omega
  have c7b : ¬ nI n = 16 := by rw [nI_eqk 16 16 rfl (by decide) (by omega)]; exact c7
  have i12 : n < 16 := by omega
  refine ⟨nI n + 1, mW (mW I 28 n x0) 27 5 (nI n + 1), mW (mW (mW (mW (mW I 28 n x0) 27 5 (nI n + 1)) 119 0 0) 146 n x0) 119 48 (nI n + 1), ?_, ?_, ?_⟩
  · simp only [if_neg c0, if_neg c1, if_neg c2, en1, if_pos c7a, mSto_n i12 (show 16 < 2 ^ 31 by decide), Option.bind_some, mW_rd, Nat.reduceEqDiff, reduceIte]
  · simp only [if_neg c0, if_neg c1, if_neg c2, if_neg one_n0, en, mW_rd, Nat.reduceEqDiff, reduceIte, if_neg c7b, mSto_n i12 (show 16 < 2 ^ 31 by decide), Option.bind_some]
  · refine Inv_keepU h ?_ (fun a h1 h2 => by rw [mW_ne _ _ _ (by omega), mW_ne _ _ _ (by omega), mW_ne _ _ _ (by omega), mW_ne _ _ _ (by omega), mW_ne _ _ _ (by omega)]) rfl rfl rfl rfl h.2.2.1 h.2.2.2.1 h.2.2.2.2.1 h.2.2.2.2.2.1
    exact ⟨hS, hC, hP, hK, hL, hLaw, ⟨⟨rfl, r2, eqOn_up r3 _ _, r4, r5, r6, r7⟩, ⟨n + 1, by omega, nI_1 n⟩, w2, up_all (P := fun x => bd x 60) w3 n (bd_of (by decide) c1 c2), w4, w5, w6, w7⟩, hB⟩
theorem op_pedal : S_pedal Inv := by
  intro I s h x0 x1 x2
  obtain ⟨hS, hC, hP, hK, hL, hLaw, ⟨⟨r1, r2, r3, r4, r5, r6, r7⟩, w1, ⟨n, hn, en⟩, w3, w4, w5, w6, w7⟩, hB⟩ := h.1
  have en1 : I 27 6 = nI n := by rw [r2, en]
  have fail : r9_pedal I x0 x1 x2 = some (-1, I) → r10_pedal I x0 x1 x2 = some (-1, mW I 119 0 0) → ∃ v I1 I2, r9_pedal I x0 x1 x2 = some (v, I1) ∧ r10_pedal I1 x0 x1 x2 = some (v, I2) ∧ Inv I2 s := fun g1 g2 => ⟨-1, I, _, g1, g2, Inv_told 0 h⟩
  unfold r9_pedal r1_addHeld r10_pedal r10_isIn at *
  by_cases c0 : x0 = -1
  · refine ⟨0, mW I 27 6 0, mW (mW (mW I 27 6 0) 119 0 0) 119 53 0, ?_, ?_, ?_⟩
    · simp only [if_pos c0, Option.bind_some]
    · simp only [if_pos c0]
    · refine Inv_keepU h ?_ (fun a h1 h2 => by rw [mW_ne _ _ _ (by omega), mW_ne _ _ _ (by omega), mW_ne _ _ _ (by omega)]) rfl rfl rfl rfl h.2.2.1 h.2.2.2.1 h.2.2.2.2.1 h.2.2.2.2.2.1
      exact ⟨hS, hC, hP, hK, hL, hLaw, ⟨⟨r1, rfl, r3, r4, r5, r6, r7⟩, w1, ⟨0, by decide, rfl⟩, w3, w4, w5, w6, w7⟩, hB⟩
  by_cases c1 : x0 < 0
  · exact fail (by simp only [if_neg c0, if_pos c1, Option.bind_some]) (by simp only [if_neg c0, if_pos c1, reduceIte])
  by_cases c2 : (59 : Int32) < x0
  · exact fail (by simp only [if_neg c0, if_neg c1, if_pos c2, Option.bind_some]) (by simp only [if_neg c0, if_neg c1, if_pos c2, reduceIte])
  by_cases c3 : x1 < 1
  · exact fail (by simp only [if_neg c0, if_neg c1, if_neg c2, if_pos c3, Option.bind_some]) (by simp only [if_neg c0, if_neg c1, if_neg c2, if_pos c3, if_neg one_n0, reduceIte])
  by_cases c4 : (30 : Int32) < x1
  · have c4' : ¬ x1 ≤ 30 := i32_nle.mpr c4
    exact fail (by simp only [if_neg c0, if_neg c1, if_neg c2, if_neg c3, if_neg c4', Option.bind_some]) (by simp only [if_neg c0, if_neg c1, if_neg c2, if_neg c3, if_pos c4, if_neg one_n0, reduceIte])
  have c4' : x1 ≤ 30 := i32_nlt.mp c4
  by_cases c5 : x2 < 0
  · exact fail (by simp only [if_neg c0, if_neg c1, if_neg c2, if_neg c3, if_pos c4', if_pos c5, Option.bind_some]) (by simp only [if_neg c0, if_neg c1, if_neg c2, if_neg c3, if_neg c4, if_pos c5, if_neg one_n0, reduceIte])
  by_cases c6 : (60 : Int32) < x2
  · exact fail (by simp only [if_neg c0, if_neg c1, if_neg c2, if_neg c3, if_pos c4', if_neg c5, if_pos c6, Option.bind_some]) (by simp only [if_neg c0, if_neg c1, if_neg c2, if_neg c3, if_neg c4, if_neg c5, if_pos c6, if_neg one_n0, reduceIte])
  by_cases c7 : n = 9
  · have c7a : ¬ (nI n < 9) := by rw [nI_ltk 9 9 rfl (by decide) (by omega)]; omega
    have c7b : nI n = 9 := by rw [c7]; rfl
    exact fail (by simp only [if_neg c0, if_neg c1, if_neg c2, if_neg c3, if_pos c4', if_neg c5, if_neg c6, en1, if_neg c7a, Option.bind_some]) (by simp only [if_neg c0, if_neg c1, if_neg c2, if_neg c3, if_neg c4, if_neg c5, if_neg c6, if_neg one_n0, en, if_pos c7b])
  clear fail
  have c7a : nI n < 9 := by rw [nI_ltk 9 9 rfl (by decide) (by omega)]; omega
  have c7b : ¬ nI n = 9 := by rw [nI_eqk 9 9 rfl (by decide) (by omega)]; exact c7
  have i12 : n < 9 := by omega
  refine ⟨nI n + 1, mW (mW (mW (mW I 30 n x0) 31 n (x0 + x1)) 32 n x2) 27 6 (nI n + 1), mW (mW (mW (mW (mW (mW (mW (mW (mW I 30 n x0) 31 n (x0 + x1)) 32 n x2) 27 6 (nI n + 1)) 119 0 0) 150 n x0) 151 n x1) 152 n x2) 119 53 (nI n + 1), ?_, ?_, ?_⟩
  · simp only [if_neg c0, if_neg c1, if_neg c2, if_neg c3, if_pos c4', if_neg c5, if_neg c6, en1, if_pos c7a, mSto_n i12 (show 9 < 2 ^ 31 by decide), Option.bind_some, mW_rd, Nat.reduceEqDiff, reduceIte]
  · simp only [if_neg c0, if_neg c1, if_neg c2, if_neg c3, if_neg c4, if_neg c5, if_neg c6, if_neg one_n0, en, mW_rd, Nat.reduceEqDiff, reduceIte, if_neg c7b, mSto_n i12 (show 9 < 2 ^ 31 by decide), Option.bind_some]
  · refine Inv_keepU h ?_ (fun a h1 h2 => by rw [mW_ne _ _ _ (by omega), mW_ne _ _ _ (by omega), mW_ne _ _ _ (by omega), mW_ne _ _ _ (by omega), mW_ne _ _ _ (by omega), mW_ne _ _ _ (by omega), mW_ne _ _ _ (by omega), mW_ne _ _ _ (by omega), mW_ne _ _ _ (by omega)]) rfl rfl rfl rfl h.2.2.1 h.2.2.2.1 h.2.2.2.2.1 h.2.2.2.2.2.1
    refine ⟨hS, hC, hP, hK, hL, hLaw, ⟨⟨r1, rfl, r3, r4, eqOn_up r5 _ _, fun j hj => ?_, eqOn_up r7 _ _⟩, w1, ⟨n + 1, by omega, nI_1 n⟩, w3, w4, up_all (P := fun x => bd x 59) w5 n (bd_of (by decide) c1 c2), up_all (P := fun x => bd x 30) w6 n (bd_of (by decide) (lt0_of (c := 1) (by decide) c3) c4), up_all (P := fun x => bd x 60) w7 n (bd_of (by decide) c5 c6)⟩, hB⟩
    show mU (I 31) n (x0 + x1) j = mU (I 150) n x0 j + mU (I 151) n x1 j
    unfold mU
    by_cases e : j = n
    · rw [if_pos e, if_pos e, if_pos e]
    · rw [if_neg e, if_neg e, if_neg e]; exact r6 j hj
theorem op_book : S_book Inv := by
  intro I s h x0 x1
  obtain ⟨⟨hS, ⟨L, hL, eL⟩, _⟩, _, _, _, _, _, _, hB⟩ := h.1
  have eL1 : I 3 12 = nI L := by rw [hS.1.2.2.2.2.2.2.2.2, eL]
  unfold r9_book r10_book
  have fail : ∀ {B : Option (Int32 × mI)}, B = some (-2, mW I 119 0 0) → ∃ (v : Int32) (I2 : mI), some (-2 : Int32) = some v ∧ B = some (v, I2) ∧ Inv I2 s := fun g => ⟨-2, _, rfl, g, Inv_told 0 h⟩
  rw [eL1, eL]
  by_cases c1 : x0 < 0
  · rw [if_pos c1]
    exact fail (by simp only [isIn_0a c1, reduceIte, Option.bind_some])
  obtain ⟨i, hi, rfl⟩ := nI_of c1
  have hs1 : (nI L - 1).toInt = L - 1 := by rw [show (1 : Int32) = nI 1 by decide, pk_sub_toInt (by omega) (by decide)]; rfl
  by_cases c2 : L ≤ i
  · rw [if_neg c1, if_pos (nI_le c2 hi)]
    refine fail ?_
    have : nI L - 1 < nI i := by rw [i32_lt, hs1, nI_toInt hi]; omega
    simp only [isIn_0b this, reduceIte, Option.bind_some]
  have c2' : ¬ nI L - 1 < nI i := by rw [i32_lt, hs1, nI_toInt hi]; omega
  rw [if_neg c1, if_neg (nI_ge (by omega) (by omega)), if_neg (show ¬ (150 : Int32) ≤ nI i from nI_ge (b := 150) (by omega) (by decide))]
  by_cases c3 : x1 < 0
  · rw [if_pos c3]
    exact fail (by simp only [isIn_1 c1 c2', if_neg one_n0, isIn_0a c3, reduceIte, Option.bind_some])
  by_cases c4 : (3 : Int32) < x1
  · rw [if_neg c3, if_neg (by rw [i32_lt] at c4 ⊢; rw [show (4 : Int32).toInt = 4 by decide]; rw [show (3 : Int32).toInt = 3 by decide] at c4; omega)]
    exact fail (by simp only [isIn_1 c1 c2', if_neg one_n0, isIn_0b c4, reduceIte, Option.bind_some])
  obtain ⟨j, hj, rfl⟩ := nI_of2 (M := 3) (n := 3) (by decide) c3 (i32_nlt.mp c4)
  rw [if_neg c3, if_pos (show nI j < (4 : Int32) from nI_lt (b := 4) (by omega) (by decide)), show (4 : Int32) = nI 4 by decide, nI_mul, nI_mul, nI_add, nI_add, mLd_n (by omega) (by decide), Option.bind_some, isIn_1 c1 c2', if_neg one_n0, isIn_1 c3 c4, if_neg one_n0, mLd_n (by omega) (by decide), Option.bind_some, Option.bind_some]
  refine ex1 rfl rfl ?_ (Inv_told 0 h)
  rw [mW_ne _ _ _ (by decide), Nat.mul_comm 4 i]
  exact (hB _ (by omega)).symm

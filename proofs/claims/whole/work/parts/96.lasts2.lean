/-! LASTS -/
theorem lasts_go {I M : mI} {s p L np nq : Nat} (h : Inv I s) (hM : ∀ a, 119 ≤ a → M a = I a) (hnp : np ≤ 12) (hnq : nq ≤ 6) (en1 : I 8 6 = nI np) (en2 : I 119 6 = nI np) (en3 : I 8 7 = nI nq) (en4 : I 119 7 = nI nq) (hp : p < nq) (hL : L < 2 ^ np) (h1 : 1 ≤ (bitsL L).length) (h5 : (bitsL L).length ≤ 5) : ∃ v C' Mz M' ord, r5_shortestOf I s (nI p) (nI L) = some (v, C') ∧ l10_lasts_71 (nI L) FU 0 (mW (mW M 119 0 0) 119 45 0) = some Mz ∧ l10_lasts_128 (nI p) FU 100000000 1 Mz = some (v, M') ∧ Tho I M C' M' ∧ ord.length = (bitsL L).length ∧ Ord C' 43 ord ∧ Ord M' 145 ord := by
  have p12 : 2 ^ np ≤ 2 ^ 12 := Nat.pow_le_pow_right (by decide) hnp
  have hL4 : L < 4096 := Nat.lt_of_lt_of_le hL p12
  have tnp : ∀ q, L.testBit q = true → q < np := fun q hq => by
    apply Classical.byContradiction
    intro hn
    rw [Nat.testBit_lt_two_pow (Nat.lt_of_lt_of_le hL (Nat.pow_le_pow_right (by decide) (show np ≤ q by omega)))] at hq
    exact absurd hq (by decide)
  obtain ⟨C1, M1, s1, s2, D1, f1, g1, k1, t1⟩ := think_start h hM
  obtain ⟨⟨hS, hw⟩, hC, hLw, hBk, hmode⟩ := D1.1
  have m120 : M 120 = I 120 := hM 120 (by decide)
  -- the row of the set
  obtain ⟨Mz, z1, z2, z3, z4, z5⟩ := build71 (M := mW (mW M 119 0 0) 119 45 0) (np := np) (L := L) hnp (by rw [mW_off _ _ (by decide), mW_off _ _ (by decide), hM 119 (by decide), en2]) (mW_at _ _ _ _) hL h5
  generalize hm : (bitsL L).length = m at *
  -- the base
  have b120 : (mW Mz 119 5 1) 120 = I 120 := by rw [mW_ne _ _ _ (by decide), z4 120 (by decide) (by decide), mW_ne _ _ _ (by decide), mW_ne _ _ _ (by decide), m120]
  have brow : ∀ a, 121 < a → a ≠ 144 → (mW Mz 119 5 1) a = I a := fun a h1 h2 => by rw [mW_ne _ _ _ (by omega), z4 a (by omega) h2, mW_ne _ _ _ (by omega), mW_ne _ _ _ (by omega), hM a (by omega)]
  have b119 : ∀ k, k ≠ 0 → k ≠ 5 → k ≠ 45 → (mW Mz 119 5 1) 119 k = I 119 k := fun k h0 h5 h45 => by rw [mW_off _ _ h5, z5 k h45, mW_off _ _ h45, mW_off _ _ h0, hM 119 (by decide)]
  have m1row : ∀ a, a ≠ 119 → a ≠ 122 → 119 ≤ a → M1 a = I a := fun a h1 h2 h3 => by rw [g1 a (by omega), hM a h3]
  have m1f : ∀ k, k ≠ 0 → k ≠ 5 → M1 119 k = I 119 k := fun k h0 h5 => by rw [k1 k h0 h5, hM 119 (by decide)]
  have hB : QW (mW C1 1 8 300) (mW Mz 119 5 1) (fun _ => True) := by
    have c35 : (mW C1 1 8 300) 35 = C1 35 := mW_ne _ _ _ (by decide)
    have cr : ∀ a, a ≠ 1 → (mW C1 1 8 300) a = C1 a := fun a ha => mW_ne _ _ _ ha
    rw [m1row 120 (by decide) (by decide) (by decide)] at hS
    obtain ⟨⟨a1, a2, a3, a4, a5, a6, a7, a8, a9⟩, _, b2, _, _⟩ := hS
    refine ⟨?_, fun k hk _ => ?_, ?_, ?_, ?_, mW_at _ _ _ _⟩
    · rw [c35, b120]; exact ⟨a1, a2, a3, a4, a7⟩
    · rw [cr 36 (by decide), b120]; exact b2 k hk
    · rw [cr 8 (by decide), cr 9 (by decide), cr 10 (by decide), cr 11 (by decide), cr 12 (by decide), cr 13 (by decide), b119 6 (by decide) (by decide) (by decide), b119 7 (by decide) (by decide) (by decide), brow 123 (by decide) (by decide), brow 124 (by decide) (by decide), brow 125 (by decide) (by decide), brow 126 (by decide) (by decide), brow 127 (by decide) (by decide)]
      rw [m1f 6 (by decide) (by decide), m1f 7 (by decide) (by decide), m1row 123 (by decide) (by decide) (by decide), m1row 124 (by decide) (by decide) (by decide), m1row 125 (by decide) (by decide) (by decide), m1row 126 (by decide) (by decide) (by decide), m1row 127 (by decide) (by decide) (by decide)] at hC
      exact hC
    · rw [cr 15 (by decide), cr 16 (by decide), cr 17 (by decide), brow 131 (by decide) (by decide), brow 132 (by decide) (by decide), brow 133 (by decide) (by decide), brow 134 (by decide) (by decide), brow 135 (by decide) (by decide), brow 136 (by decide) (by decide), brow 137 (by decide) (by decide)]
      rw [m1row 131 (by decide) (by decide) (by decide), m1row 132 (by decide) (by decide) (by decide), m1row 133 (by decide) (by decide) (by decide), m1row 134 (by decide) (by decide) (by decide), m1row 135 (by decide) (by decide) (by decide), m1row 136 (by decide) (by decide) (by decide), m1row 137 (by decide) (by decide) (by decide)] at hLw
      exact hLw
    · rw [mW_off _ _ (by decide)]
      rcases hmode with ⟨q, _⟩ | ⟨_, q, _⟩
      · exact absurd q (by decide)
      · exact q
  -- what comes of a piece
  have ex : ∀ q w s, ∃ r, q < np → TrP (mW C1 1 8 300) (mW Mz 119 5 1) p q w s r := fun q w s => by
    by_cases hq : q < np
    · obtain ⟨r, hr⟩ := tr_ex hB (p := p) (q := q) (by omega) (by omega) (by rw [b119 7 (by decide) (by decide) (by decide), en4]; exact nI_lt hp (by omega)) (by rw [b119 6 (by decide) (by decide) (by decide), en2]; exact nI_lt hq (by omega)) w s
      exact ⟨r, fun _ => hr⟩
    · exact ⟨(0, w, s), fun k => absurd k hq⟩
  obtain ⟨tr, htr⟩ : ∃ tr : Nat → Int32 → Int32 → Nat × Int32 × Int32, ∀ q w s, q < np → TrP (mW C1 1 8 300) (mW Mz 119 5 1) p q w s (tr q w s) := ⟨fun q w s => Classical.choose (ex q w s), fun q w s => Classical.choose_spec (ex q w s)⟩
  -- the class
  have w0 : (mW C1 1 8 300) 35 4 = I 120 3 := by rw [hB.1.1, b120]
  have s0 : (mW C1 1 8 300) 35 5 = I 120 4 := by rw [hB.1.2.1, b120]
  obtain ⟨n, hn⟩ : ∃ n, m = n + 1 := ⟨m - 1, by omega⟩
  obtain ⟨C', c1, c2, c3, c4, c5, c6, c7⟩ := dfs htr n 7 L (I 120 3) (I 120 4) 0 [] (300, []) (mW C1 1 8 300) (by rw [hm, hn]) (by omega) (by show 0 + (n + 1) ≤ 5; omega) hL4 tnp ⟨⟨w0, s0, rfl, rfl, rfl⟩, fun _ _ _ => rfl, fun _ _ => rfl, hB.2.2.2.2.1⟩ (mW_at _ _ _ _) (by show 300 ≤ 300; omega) (fun i hi => absurd hi (by simp)) (fun i hi => absurd hi (by simp)) (by omega)
  -- the numbers
  obtain ⟨_, ⟨⟨_, _, e9, _⟩, _, _, w123, _⟩, _⟩ := h.1
  obtain ⟨lg, hlg⟩ := bd_fun w123
  have C9 : ∀ q, q < 12 → C' 9 q = nI (lg q) := fun q hq => by rw [c6 9 (by omega), mW_ne _ _ _ (by decide), f1 9 (by omega), e9 q hq, (hlg q hq).2]
  -- the pieces in their row
  have srt : (bitsL L).Pairwise (· < ·) := List.Pairwise.filter _ List.pairwise_lt_range
  have ga : ∀ x (hx : x < m), (bitsL L).getD x 0 = (bitsL L)[x]'(by rw [hm]; exact hx) := fun x hx => by
    rw [List.getD_eq_getElem?_getD, List.getElem?_eq_getElem (by rw [hm]; exact hx)]; rfl
  have mono : ∀ x y, x < y → y < m → (bitsL L).getD x 0 < (bitsL L).getD y 0 := fun x y hxy hy => by
    rw [ga x (by omega), ga y hy]
    exact List.pairwise_iff_getElem.mp srt x y _ _ hxy
  have ha : ∀ x y, x < m → y < m → ((bitsL L).getD x 0 ≤ (bitsL L).getD y 0 ↔ x ≤ y) := fun x y hx hy => by
    constructor
    · intro le
      apply Classical.byContradiction
      intro hn'
      have := mono y x (by omega) hx
      omega
    · intro le
      by_cases e : x = y
      · rw [e]; exact Nat.le_refl _
      · have := mono x y (by omega) hy
        omega
  have han : ∀ x, x < m → (bitsL L).getD x 0 < np ∧ (bitsL L).getD x 0 < 12 := fun x hx => by
    rw [ga x hx]
    have := bits_mem.mp (List.getElem_mem (l := bitsL L) (n := x) (by rw [hm]; exact hx))
    exact ⟨tnp _ this.2, this.1⟩
  have emap : bitsL L = (List.range m).map (fun x => (bitsL L).getD x 0) := by
    refine List.ext_getElem (by rw [List.length_map, List.length_range, hm]) (fun i h1 h2 => ?_)
    rw [List.getElem_map, List.getElem_range, ga i (by rw [hm] at h1; exact h1)]
  have elex : lexp m (bitsL L) = (lexp m (List.range m)).map (List.map (fun x => (bitsL L).getD x 0)) := by
    have := lexp_map (a := fun x => (bitsL L).getD x 0) m (List.range m) (fun x hx y hy e => by
      have hx := List.mem_range.mp hx
      have hy := List.mem_range.mp hy
      have e : (bitsL L).getD x 0 = (bitsL L).getD y 0 := e
      have a1 := (ha x y hx hy).mp (by omega)
      have a2 := (ha y x hy hx).mp (by omega)
      omega)
    rw [← emap] at this
    exact this
  obtain ⟨lx1, lx2, lx3⟩ := lex_facts m (by omega) h1
  have permO : ∀ x ∈ lexp m (List.range m), (x.map (fun x => (bitsL L).getD x 0)).Perm (bitsL L) := fun x hx => by
    have := (lexp_perm m (List.range m) (by rw [List.length_range]; exact Nat.le_refl _) x hx).map (fun x => (bitsL L).getD x 0)
    rw [← emap] at this
    exact this
  have Slb : sumL lg (bitsL L) ≤ 30 * m := by
    have := sumL_le (h := lg) (B := 30) (bitsL L) (fun x hx => (hlg x (bits_mem.mp hx).1).1)
    rw [hm] at this
    exact this
  -- the reference
  have G0 : GoodM Mz Mz m := ⟨fun _ _ => rfl, fun _ _ => rfl, fun _ _ => rfl, by rw [z5 5 (by decide), mW_off _ _ (by decide), mW_off _ _ (by decide), hM 119 (by decide)]; exact h.2.2.2.2.2.1.1, z2⟩
  obtain ⟨y', M', r1, r2, r3, r4⟩ := orders_m (C0 := mW C1 1 8 300) (Ms := Mz) (p := p) (np := np) (m := m) (Sl := sumL lg (bitsL L)) (tr := tr) (lg := lg) (a := fun x => (bitsL L).getD x 0) htr (fun q hq => by rw [brow 123 (by decide) (by decide), (hlg q (by omega)).2]) h1 h5 (by omega) ha han (lexp m (List.range m)) (fun e => by rw [e] at lx2; exact absurd lx2 (by decide)) (chk_all m (by omega) h1) (fun x hx => ⟨(permO x hx).nodup_iff.mpr (bits_nodup L), sumL_perm (permO x hx)⟩) Mz 100000000 (300, []) G0 (by rw [lx3, ← emap]; exact z3) (.inl ⟨rfl, rfl⟩) FU (FU_lt (by omega))
  rw [← elex] at r3
  have mz3 : Mz 120 3 = I 120 3 := by rw [← b120, mW_ne _ _ _ (by decide)]
  have mz4 : Mz 120 4 = I 120 4 := by rw [← b120, mW_ne _ _ _ (by decide)]
  rw [mz3, mz4] at r3
  have efe : FE tr (n + 1) (bitsL L) (I 120 3) (I 120 4) 0 [] (300, []) = (lexp m (bitsL L)).foldl (bst tr (I 120 3) (I 120 4) 0 []) (300, []) := by rw [hn]; rfl
  rw [efe] at c4 c5
  generalize (lexp m (bitsL L)).foldl (bst tr (I 120 3) (I 120 4) 0 []) (300, []) = b at *
  obtain ⟨d1, d2, d3, d4⟩ := r3.resolve_left (fun q => r4 q.2)
  refine ⟨nI (sumL lg (bitsL L) + b.1), C', Mz, M', b.2, ?_, z1, by rw [r1, d1], ?_, d4, c5, d3⟩
  · unfold r5_shortestOf
    rw [s1, Option.bind_some]
    have c1' : rB5_tryOrders (fun J y0 y1 y2 y3 => r5_tryOrders 7 J 35 y0 y1 y2 y3) (mW C1 1 8 300) 35 (nI p) (nI L) 0 0 = some C' := c1
    rw [c1', Option.bind_some, c4, sum28 C9, Option.bind_some, Nat.add_comm]
  · obtain ⟨e1, e2, e3, e4, e5⟩ := r2
    have mzr : ∀ a, a ≠ 119 → a ≠ 144 → Mz a = M a := fun a x y => by rw [z4 a x y, mW_ne _ _ _ x, mW_ne _ _ _ x]
    refine ⟨fun a ha' => by rw [c6 a (by omega), mW_ne _ _ _ (by omega), f1 a (by omega)], fun k hk => by rw [e1 k hk, mzr 120 (by decide) (by decide), m120], ?_, fun a ha' => by rw [e2 a (by omega), mzr a (by omega) (by omega)], fun k hk => ?_⟩
    · rw [e2 128 (by omega), mzr 128 (by decide) (by decide), hM 128 (by decide)]
      exact h.1.2.2.2.2.2.2.2
    · by_cases k5 : k = 5
      · rw [k5, e4, hM 119 (by decide)]
        exact h.2.2.2.2.2.1.1.symm
      · rw [e3 k k5, z5 k (by omega), mW_off _ _ (by omega), mW_off _ _ (by omega)]
theorem op_lasts : S_lasts Inv := by
  intro I s h x0 x1 x2
  obtain ⟨np, nq, hnp, hnq, en1, en2, en3, en4⟩ := RelC_n h.1
  have p12 : 2 ^ np ≤ 2 ^ 12 := Nat.pow_le_pow_right (by decide) hnp
  have pp : 0 < 2 ^ np := Nat.two_pow_pos np
  have all : r0_allPieces I = nI (2 ^ np - 1) := by
    unfold r0_allPieces
    rw [en1, sh_pow np (by omega)]
    exact nI_sub (b := 1) (Nat.one_le_two_pow)
  have allM : ∀ M : mI, (∀ a, 119 ≤ a → M a = I a) → (((1 : Int32) <<< (M 119 6 &&& 31)) - 1) = nI (2 ^ np - 1) := fun M hM => by
    rw [hM 119 (by decide), en2, sh_pow np (by omega)]
    exact nI_sub (b := 1) (Nat.one_le_two_pow)
  have m7 : ∀ M : mI, (∀ a, 119 ≤ a → M a = I a) → (mW M 119 0 0) 119 7 = nI nq := fun M hM => by rw [mW_off _ _ (by decide), hM 119 (by decide), en4]
  have bad : r9_lasts I s x0 x1 x2 = some (-1, I, s) → r10_lasts I x0 x1 x2 = some (-1, mW I 119 0 0) → ∃ (v : Int32) (I1 : mI) (s1 : Nat) (I2 : mI), r9_lasts I s x0 x1 x2 = some (v, I1, s1) ∧ r10_lasts I1 x0 x1 x2 = some (v, I2) ∧ Inv I2 s1 := fun e1 e2 => ex3 e1 e2 rfl (Inv_told 0 h)
  have hI : ∀ a, 119 ≤ a → I a = I a := fun _ _ => rfl
  by_cases a : r0_hasPlayer I x0 = 0
  · refine bad ?_ ?_
    · unfold r9_lasts; rw [if_pos a]
    · unfold r10_lasts; rw [isPlayer_e hnq en3 (m7 I hI), if_pos a]
  obtain ⟨p, hp, rfl⟩ := hasPlayer_t hnq en3 a
  by_cases c : x1 &&& ((nI (2 ^ np - 1)) ^^^ (-1)) = 0
  · have sm : ∃ L, L < 2 ^ np ∧ x1 = nI L := by
      refine ⟨x1.toBitVec.toNat, ?_, ?_⟩
      · refine Nat.lt_pow_two_of_testBit _ (fun i hi => ?_)
        have tb : x1.toBitVec.toNat.testBit i = bt x1 i := by unfold bt; rw [BitVec.getLsbD]
        rw [tb]
        by_cases i32 : i < 32
        · have := (and0_bt.mp c) i i32
          rw [b_xor, b_m1 i i32, bt_nI i32, Nat.testBit_two_pow_sub_one] at this
          have : ¬ (bt x1 i = true ∧ (!decide (i < np)) = true) := by simpa using this
          cases hb : bt x1 i with
          | false => rfl
          | true => exact absurd ⟨hb, by simp; omega⟩ this
        · exact b_big (by omega)
      · refine b_ext (fun i hi => ?_)
        rw [bt_nI hi]
        unfold bt
        rw [BitVec.getLsbD]
    obtain ⟨L, hL, rfl⟩ := sm
    have hL4 : L < 4096 := Nat.lt_of_lt_of_le hL p12
    have bc := bc_len hL4
    have b12 : (bitsL L).length ≤ 12 := by
      have := List.length_filter_le (fun i => L.testBit i) (List.range 12)
      rw [List.length_range] at this
      exact this
    have ones : r10_onesOf (nI L) = some (nI (bitsL L).length) := by rw [ones_bc hL4, bc]
    by_cases z0 : (bitsL L).length = 0
    · have L0 : L = 0 := bits_nil hL4 (List.eq_nil_of_length_eq_zero z0)
      refine bad ?_ ?_
      · unfold r9_lasts
        rw [if_neg a, all, if_pos c, bc, z0, if_pos (by decide)]
      · unfold r10_lasts
        rw [isPlayer_e hnq en3 (m7 I hI), if_neg a, L0, isIn_0a (by decide), if_pos rfl]
    have L1 : 1 ≤ L := by
      apply Classical.byContradiction
      intro hn
      have : L = 0 := by omega
      rw [this] at z0
      exact z0 (by decide)
    have n1 : ¬ nI (bitsL L).length < (1 : Int32) := nI_nlt (b := 1) (by omega) (by omega)
    have isI : ∀ M : mI, (∀ a, 119 ≤ a → M a = I a) → r10_isIn (nI L) 1 (((1 : Int32) <<< (M 119 6 &&& 31)) - 1) = 1 := fun M hM => by
      rw [allM M hM]
      exact isIn_1 (show ¬ nI L < (1 : Int32) from nI_nlt (b := 1) L1 (by omega)) (nI_nlt (by omega) (by omega))
    by_cases z5 : 5 < (bitsL L).length
    · have g5 : (5 : Int32) < nI (bitsL L).length := nI_lt (a := 5) z5 (by omega)
      refine bad ?_ ?_
      · unfold r9_lasts
        rw [if_neg a, all, if_pos c, bc, if_neg n1, if_pos g5]
      · unfold r10_lasts
        rw [isPlayer_e hnq en3 (m7 I hI), if_neg a, isI I hI, if_neg one_n0, ones, Option.bind_some, if_pos g5]
    have g5 : ¬ (5 : Int32) < nI (bitsL L).length := nI_nlt (a := 5) (by omega) (by decide)
    by_cases x0 : x2 = 0
    · subst x0
      refine op_tho h (fun M hM => ?_)
      obtain ⟨v, C', Mz, M', ord, q1, q2, q3, q4, q5, q6, q7⟩ := lasts_go h hM hnp hnq en1 en2 en3 en4 hp hL (by omega) (by omega)
      refine ⟨v, C', M', ?_, ?_, q4⟩
      · unfold r9_lasts
        rw [if_neg a, all, if_pos c, bc, if_neg n1, if_neg g5, if_pos rfl, q1, Option.bind_some, if_pos rfl, Option.bind_some]
      · unfold r10_lasts
        rw [isPlayer_e hnq en3 (m7 M hM), if_neg a, isI M hM, if_neg one_n0, ones, Option.bind_some, if_neg g5, if_pos rfl, q2, Option.bind_some, q3, Option.bind_some, if_pos rfl, Option.bind_some]
    by_cases d : x2 < 10
    · refine bad ?_ ?_
      · unfold r9_lasts
        rw [if_neg a, all, if_pos c, bc, if_neg n1, if_neg g5, if_neg x0, if_pos d]
      · unfold r10_lasts
        rw [isPlayer_e hnq en3 (m7 I hI), if_neg a, isI I hI, if_neg one_n0, ones, Option.bind_some, if_neg g5, if_neg x0, Option.bind_some, isIn_0a d, if_pos rfl]
    obtain ⟨j, hj, rfl⟩ := nI_of (lt0_of (c := 10) (by decide) d)
    have j10 : 10 ≤ j := by
      rw [nI_ltk 10 10 rfl (by decide) hj] at d
      omega
    have e10 : nI j - 10 = nI (j - 10) := nI_sub (b := 10) j10
    have ec : (10 : Int32) + nI (bitsL L).length = nI (10 + (bitsL L).length) := nI_addl rfl
    have e9 : (9 : Int32) + nI (bitsL L).length = nI (9 + (bitsL L).length) := nI_addl rfl
    by_cases g : j < 10 + (bitsL L).length
    · refine op_tho h (fun M hM => ?_)
      obtain ⟨v, C', Mz, M', ord, q1, q2, q3, q4, q5, q6, q7⟩ := lasts_go h hM hnp hnq en1 en2 en3 en4 hp hL (by omega) (by omega)
      refine ⟨nI (ord.getD (j - 10) 0), C', M', ?_, ?_, q4⟩
      · unfold r9_lasts
        rw [if_neg a, all, if_pos c, bc, if_neg n1, if_neg g5, if_neg x0, if_neg d, ec, if_pos (nI_lt g (by omega)), q1, Option.bind_some, if_neg x0, e10]
        dsimp only
        rw [mLd_n (by omega) (by decide), Option.bind_some, Option.bind_some, q6 (j - 10) (by omega)]
      · unfold r10_lasts
        rw [isPlayer_e hnq en3 (m7 M hM), if_neg a, isI M hM, if_neg one_n0, ones, Option.bind_some, if_neg g5, if_neg x0, Option.bind_some, e9, isIn_1 d (nI_nlt (by omega) (by omega)), if_neg one_n0, q2, Option.bind_some, q3, Option.bind_some, if_neg x0, e10]
        dsimp only
        rw [mLd_n (by omega) (by decide), Option.bind_some, Option.bind_some, q7 (j - 10) (by omega)]
    · refine bad ?_ ?_
      · unfold r9_lasts
        rw [if_neg a, all, if_pos c, bc, if_neg n1, if_neg g5, if_neg x0, if_neg d, ec, if_neg (nI_nlt (by omega) (by omega))]
      · unfold r10_lasts
        rw [isPlayer_e hnq en3 (m7 I hI), if_neg a, isI I hI, if_neg one_n0, ones, Option.bind_some, if_neg g5, if_neg x0, Option.bind_some, e9, isIn_0b (nI_lt (by omega) hj), if_pos rfl]
  · refine bad ?_ ?_
    · unfold r9_lasts
      rw [if_neg a, all, if_neg c]
    · have : r10_isIn x1 1 (((1 : Int32) <<< (I 119 6 &&& 31)) - 1) = 0 := by
        rw [allM I hI]
        rcases isIn_01 x1 1 (nI (2 ^ np - 1)) with q | q
        · exact q
        · exfalso
          obtain ⟨y1, y2⟩ := isIn_yes (x := x1) (a := 1) (b := nI (2 ^ np - 1)) (by rw [q]; exact one_n0)
          obtain ⟨L, hL, rfl⟩ := nI_of (lt0_of (c := 1) (by decide) y1)
          rw [nI_ltI (by omega) hL] at y2
          refine c (and0_bt.mpr (fun i hi hq => ?_))
          rw [b_xor, b_m1 i hi, bt_nI hi, bt_nI hi, Nat.testBit_two_pow_sub_one] at hq
          have lt : L < 2 ^ np := by omega
          by_cases z : i < np
          · simp [z] at hq
          · rw [Nat.testBit_lt_two_pow (Nat.lt_of_lt_of_le lt (Nat.pow_le_pow_right (by decide) (by omega)))] at hq
            exact absurd hq.1 (by decide)
      unfold r10_lasts
      rw [isPlayer_e hnq en3 (m7 I hI), if_neg a, this, if_pos rfl]

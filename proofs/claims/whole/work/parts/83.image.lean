/-! AN IMAGE: what is alike on what is used is related alike -/
theorem eqOn_t {n : Nat} {f g f' g' : Nat → Int32} (h : eqOn n f g) (hf : eqOn n f' f) (hg : eqOn n g' g) : eqOn n f' g' := fun k hk => by rw [hf k hk, hg k hk, h k hk]
theorem bd_t {n : Nat} {f f' : Nat → Int32} {P : Int32 → Prop} (h : ∀ k, k < n → P (f k)) (hf : eqOn n f' f) : ∀ k, k < n → P (f' k) := fun k hk => by rw [hf k hk]; exact h k hk
theorem eqOn_m {n m : Nat} {f g : Nat → Int32} (h : eqOn n f g) (hm : m ≤ n) : eqOn m f g := fun k hk => h k (by omega)
def EqM (G G' : mI) : Prop := ∀ j, j < 1822 → G' (cellOf j).1 (cellOf j).2 = G (cellOf j).1 (cellOf j).2
theorem eqm120 {G G' : mI} (h : EqM G G') : eqOn 47 (G' 120) (G 120) := fun k hk => by
  have := h (0 + 1 * k) (by omega)
  rw [cD120 k hk] at this
  exact this
theorem eqm123 {G G' : mI} (h : EqM G G') : eqOn 12 (G' 123) (G 123) := fun k hk => by
  have := h (54 + 4 * k) (by omega)
  rw [cD123 k hk] at this
  exact this
theorem eqm124 {G G' : mI} (h : EqM G G') : eqOn 12 (G' 124) (G 124) := fun k hk => by
  have := h (54 + 4 * k + 1) (by omega)
  rw [cD124 k hk] at this
  exact this
theorem eqm125 {G G' : mI} (h : EqM G G') : eqOn 12 (G' 125) (G 125) := fun k hk => by
  have := h (54 + 4 * k + 1 + 1) (by omega)
  rw [cD125 k hk] at this
  exact this
theorem eqm141 {G G' : mI} (h : EqM G G') : eqOn 12 (G' 141) (G 141) := fun k hk => by
  have := h (54 + 4 * k + 1 + 1 + 1) (by omega)
  rw [cD141 k hk] at this
  exact this
theorem eqm126 {G G' : mI} (h : EqM G G') : eqOn 6 (G' 126) (G 126) := fun k hk => by
  have := h (102 + 2 * k) (by omega)
  rw [cD126 k hk] at this
  exact this
theorem eqm127 {G G' : mI} (h : EqM G G') : eqOn 6 (G' 127) (G 127) := fun k hk => by
  have := h (102 + 2 * k + 1) (by omega)
  rw [cD127 k hk] at this
  exact this
theorem eqm149 {G G' : mI} (h : EqM G G') : eqOn 8 (G' 149) (G 149) := fun k hk => by
  have := h (114 + 1 * k) (by omega)
  rw [cD149 k hk] at this
  exact this
theorem eqm146 {G G' : mI} (h : EqM G G') : eqOn 16 (G' 146) (G 146) := fun k hk => by
  have := h (122 + 1 * k) (by omega)
  rw [cD146 k hk] at this
  exact this
theorem eqm150 {G G' : mI} (h : EqM G G') : eqOn 9 (G' 150) (G 150) := fun k hk => by
  have := h (138 + 3 * k) (by omega)
  rw [cD150 k hk] at this
  exact this
theorem eqm151 {G G' : mI} (h : EqM G G') : eqOn 9 (G' 151) (G 151) := fun k hk => by
  have := h (138 + 3 * k + 1) (by omega)
  rw [cD151 k hk] at this
  exact this
theorem eqm152 {G G' : mI} (h : EqM G G') : eqOn 9 (G' 152) (G 152) := fun k hk => by
  have := h (138 + 3 * k + 1 + 1) (by omega)
  rw [cD152 k hk] at this
  exact this
theorem eqm139 {G G' : mI} (h : EqM G G') : eqOn 144 (G' 139) (G 139) := fun k hk => by
  have := h (165 + 1 * k) (by omega)
  rw [cD139 k hk] at this
  exact this
theorem eqm140 {G G' : mI} (h : EqM G G') : eqOn 48 (G' 140) (G 140) := fun k hk => by
  have := h (309 + 1 * k) (by omega)
  rw [cD140 k hk] at this
  exact this
theorem eqm128 {G G' : mI} (h : EqM G G') : eqOn 600 (G' 128) (G 128) := fun k hk => by
  have := h (357 + 1 * k) (by omega)
  rw [cD128 k hk] at this
  exact this
theorem eqm132 {G G' : mI} (h : EqM G G') : eqOn 16 (G' 132) (G 132) := fun k hk => by
  have := h (958 + 4 * k) (by omega)
  rw [cD132 k hk] at this
  exact this
theorem eqm133 {G G' : mI} (h : EqM G G') : eqOn 16 (G' 133) (G 133) := fun k hk => by
  have := h (958 + 4 * k + 1) (by omega)
  rw [cD133 k hk] at this
  exact this
theorem eqm134 {G G' : mI} (h : EqM G G') : eqOn 16 (G' 134) (G 134) := fun k hk => by
  have := h (958 + 4 * k + 1 + 1) (by omega)
  rw [cD134 k hk] at this
  exact this
theorem eqm135 {G G' : mI} (h : EqM G G') : eqOn 16 (G' 135) (G 135) := fun k hk => by
  have := h (958 + 4 * k + 1 + 1 + 1) (by omega)
  rw [cD135 k hk] at this
  exact this
theorem eqm136 {G G' : mI} (h : EqM G G') : eqOn 400 (G' 136) (G 136) := fun k hk => by
  have := h (1022 + 2 * k) (by omega)
  rw [cD136 k hk] at this
  exact this
theorem eqm137 {G G' : mI} (h : EqM G G') : eqOn 400 (G' 137) (G 137) := fun k hk => by
  have := h (1022 + 2 * k + 1) (by omega)
  rw [cD137 k hk] at this
  exact this
theorem RelP_rg {f c : Nat → Int32} {m np nq : Int32} {g f' c' g' : Nat → Int32} (h : RelP f c m np nq g) (hf : f' 2 = f 2) (hc : eqOn 144 c' c) (hg : eqOn 144 g' g) : RelP f' c' m np nq g' := by
  obtain ⟨n, hn, em, ef, hl⟩ := h
  refine ⟨n, hn, em, by rw [hf, ef], fun l hl' => ?_⟩
  obtain ⟨a, ⟨p, p1, p2, p3, p4⟩, q, q1, q2, q3, q4, q5⟩ := hl l hl'
  refine ⟨by rw [hc _ (by omega), hg _ (by omega), a], ⟨p, p1, p2, by rw [hc _ (by omega), p3], by rw [hg _ (by omega), p4]⟩, q, q1, q2, by rw [hc _ (by omega), q3], by rw [hg _ (by omega), q4], fun j hj => ?_⟩
  obtain ⟨t, t1, t2, t3, t4⟩ := q5 j hj
  exact ⟨t, t1, t2, by rw [hc _ (by omega), t3], by rw [hg _ (by omega), t4]⟩
theorem RelK_rg {f c : Nat → Int32} {m : Int32} {g f' c' g' : Nat → Int32} (h : RelK f c m g) (hf : f' 2 = f 2) (hc : eqOn 144 c' c) (hg : eqOn 48 g' g) : RelK f' c' m g' := by
  obtain ⟨n, hn, em, ef, hl⟩ := h
  refine ⟨n, hn, em, by rw [hf, ef], fun l hl' => ?_⟩
  obtain ⟨a, b⟩ := hl l hl'
  refine ⟨by rw [hc _ (by omega), hg _ (by omega), a], ?_⟩
  rw [hc (9 * l + 1) (by omega), hc (9 * l + 2) (by omega), hg (3 * l + 1) (by omega), hg (3 * l + 2) (by omega)]
  exact b
theorem like_rg {c c' : Nat → Int32} (hc : eqOn 144 c' c) (p : Int32) : ∀ n, n ≤ 16 → likeSet c' p n = likeSet c p n := by
  intro n
  induction n with
  | zero => intro _; rfl
  | succ n ih =>
    intro hn
    unfold likeSet
    rw [ih (by omega), hc (9 * n) (by omega), hc (9 * n + 1) (by omega)]
theorem RelL_rg {f c : Nat → Int32} {m np : Int32} {g f' c' g' : Nat → Int32} (h : RelL f c m np g) (hf : f' 2 = f 2) (hc : eqOn 144 c' c) (hg : eqOn 12 g' g) : RelL f' c' m np g' := by
  obtain ⟨n, hn, em, ef, hl, hp⟩ := h
  refine ⟨n, hn, em, by rw [hf, ef], fun l hl' => ?_, fun p hp' => by rw [hg p hp', hp p hp', like_rg hc _ n hn]⟩
  obtain ⟨a, b, h1, h2, h3, h4, h5, h6, h7⟩ := hl l hl'
  exact ⟨a, b, h1, h2, h3, h4, h5, by rw [hc _ (by omega), h6], by rw [hc _ (by omega), h7]⟩
theorem cMi_rg {code code' : Nat → Int32} {u : Nat} (h : eqOn u code' code) : ∀ i, i ≤ u → cMi code' i = cMi code i := by
  intro i
  induction i with
  | zero => intro _; rfl
  | succ i ih =>
    intro hi
    unfold cMi
    rw [ih (by omega), h i (by omega)]
theorem cTyp_rg {code code' : Nat → Int32} {u : Nat} (h : eqOn u code' code) : ∀ n i L, i + n ≤ u → cTyp code' n i L = cTyp code n i L := by
  intro n
  induction n with
  | zero => intro i L _; rfl
  | succ n ih =>
    intro i L hi
    unfold cTyp
    rw [h i (by omega)]
    exact congrArg _ (funext fun T => ih (i + 1) T (by omega))
theorem RelLaw_rg {f c code : Nat → Int32} {m : Int32} {wd fr wh to op ar f' c' code' wd' fr' wh' to' op' ar' : Nat → Int32} (h : RelLaw f c code m wd fr wh to op ar) (h2 : f' 2 = f 2) (h3 : f' 3 = f 3) (hc : eqOn 144 c' c) (hcd : ∀ u, u ≤ 400 → f 3 = nI u → eqOn u code' code) (hw : eqOn 16 wd' wd) (hfr : eqOn 16 fr' fr) (hwh : eqOn 16 wh' wh) (hto : eqOn 16 to' to) (hop : eqOn 400 op' op) (har : eqOn 400 ar' ar) : RelLaw f' c' code' m wd' fr' wh' to' op' ar' := by
  obtain ⟨n, u, hn, hu, hmu, em, e2, e3, ho, hl⟩ := h
  have hcd := hcd u hu e3
  refine ⟨n, u, hn, hu, by rw [cMi_rg hcd u (by omega)]; exact hmu, em, by rw [h2, e2], by rw [h3, e3], fun i hi => ?_, fun l hl' => ?_⟩
  · have := ho i hi
    have lt := cMi_lt (code := code) hi
    unfold cOne at *
    rw [cMi_rg hcd i (by omega), hcd i hi]
    by_cases z : code i &&& 15 = 5
    · have le := cMi_le (code := code) (show i + 1 ≤ u by omega)
      have e : cMi code (i + 1) = cMi code i + 2 := by rw [cMi, if_pos z]
      rw [if_pos z] at this ⊢
      rw [hop _ (by omega), har _ (by omega), hop _ (by omega)]
      exact this
    · rw [if_neg z] at this ⊢
      rw [hop _ (by omega), har _ (by omega)]
      exact this
  · obtain ⟨a, b, d, q1, q2, q3, q4, q5, q6, q7, q8, q9, q10, q11, q12⟩ := hl l hl'
    refine ⟨a, b, d, q1, q2, q3, by rw [hc _ (by omega), hw _ (by omega), q4], by rw [hc _ (by omega), q5], by rw [hc _ (by omega), q6], by rw [hc _ (by omega), q7], by rw [hfr _ (by omega), cMi_rg hcd a (by omega), q8], by rw [hwh _ (by omega), cMi_rg hcd b (by omega), q9], by rw [hto _ (by omega), cMi_rg hcd d (by omega), q10], by rw [cTyp_rg hcd _ _ _ (by omega), q11], ?_⟩
    rw [cTyp_rg hcd _ _ _ (by omega)]
    exact q12
theorem RelW_rg {c c' G G' : mI} (hc : EqC c c') (hG : EqM G G') (h : RelW c G) : RelW c' G' := by
  obtain ⟨x3, x4, x5, x6, x7, ⟨x8, x8'⟩, x9, x10, x11, x12, x13, ⟨x15, x15'⟩, x16, x17, ⟨x18, x18'⟩, x19, ⟨x21, x21'⟩, x22, ⟨x24, x24'⟩, x25, ⟨x27, x27'⟩, x28, x29, x30, x31, x32, x34⟩ := hc
  have y6 : G' 119 6 = G 119 6 := hG 47 (by decide)
  have y7 : G' 119 7 = G 119 7 := hG 48 (by decide)
  have y37 : G' 119 37 = G 119 37 := hG 49 (by decide)
  have y39 : G' 119 39 = G 119 39 := hG 50 (by decide)
  have y41 : G' 119 41 = G 119 41 := hG 51 (by decide)
  have y48 : G' 119 48 = G 119 48 := hG 52 (by decide)
  have y53 : G' 119 53 = G 119 53 := hG 53 (by decide)
  have y131 : G' 131 0 = G 131 0 := hG 957 (by decide)
  obtain ⟨⟨hS, hw⟩, ⟨⟨r1, r2, r3, r4, r5, r6, r7⟩, w1, w2, w3, w4, w5, w6, w7⟩, hP, ⟨hK, _⟩, hL, hLaw, ⟨⟨d1, d2, d3, d4, d5, d6, d7⟩, v1, v2, v3, v4, v5, v6, v7⟩, hB⟩ := h
  refine ⟨⟨RelS_to hS x3 x4 x5 x6 x7 (eqm120 hG), ?_⟩, ⟨⟨by rw [x8, y6, r1], by rw [x8', y7, r2], eqOn_t r3 x9 (eqm123 hG), eqOn_t r4 x10 (eqm124 hG), eqOn_t r5 x11 (eqm125 hG), eqOn_t r6 x12 (eqm126 hG), eqOn_t r7 x13 (eqm127 hG)⟩, by rw [y6]; exact w1, by rw [y7]; exact w2, bd_t (P := fun x => bd x 30) w3 (eqm123 hG), bd_t (P := fun x => bd x 9) w4 (eqm124 hG), bd_t (P := fun x => bd x 9) w5 (eqm125 hG), bd_t (P := fun x => bd x 9) w6 (eqm126 hG), bd_t (P := fun x => bd x 9) w7 (eqm127 hG)⟩, ?_, ⟨?_, x18', x21', x24'⟩, ?_, ?_, ⟨⟨by rw [x27, y48, d1], by rw [x27', y53, d2], eqOn_t d3 x28 (eqm146 hG), fun k hk => by rw [x29 k hk, eqm149 hG k hk, d4 k hk], eqOn_t d5 x30 (eqm150 hG), fun k hk => by rw [x31 k hk, eqm150 hG k hk, eqm151 hG k hk, d6 k hk], eqOn_t d7 x32 (eqm152 hG)⟩, by rw [y48]; exact v1, by rw [y53]; exact v2, bd_t (P := fun x => bd x 60) v3 (eqm146 hG), bd_t (P := fun x => bd x 98) v4 (eqm149 hG), bd_t (P := fun x => bd x 59) v5 (eqm150 hG), bd_t (P := fun x => bd x 30) v6 (eqm151 hG), bd_t (P := fun x => bd x 60) v7 (eqm152 hG)⟩, eqOn_t hB x34 (eqm128 hG)⟩
  · rw [y6, y7]; exact WfS_to hw (eqm120 hG)
  · rw [y37, y6, y7]; exact RelP_rg hP x18 x19 (eqm139 hG)
  · rw [y39]; exact RelK_rg hK x21 x22 (eqm140 hG)
  · rw [y41, y6]; exact RelL_rg hL x24 x25 (eqm141 hG)
  · rw [y131]; exact RelLaw_rg hLaw x15 x15' x16 x17 (eqm132 hG) (eqm133 hG) (eqm134 hG) (eqm135 hG) (eqm136 hG) (eqm137 hG)
theorem RelW_u {c G : mI} (h : RelW c G) : ∃ u, u ≤ 400 ∧ c 15 3 = nI u := by
  obtain ⟨_, _, _, _, _, ⟨n, u, hn, hu, hmu, em, e2, e3, _⟩, _⟩ := h
  exact ⟨u, hu, e3⟩
theorem op_image : S_image Inv := by
  intro I s h x0 hx
  obtain ⟨hW, hU, ⟨i1, i2⟩, hT, hF, hX, hs⟩ := h
  have hI : Inv I s := ⟨hW, hU, ⟨i1, i2⟩, hT, hF, hX, hs⟩
  rcases hx with rfl | rfl
  · by_cases z : I 0 3 = 0
    · refine ex2 (v := 0) (v' := 0) (I1 := I) (I2 := mW I 119 0 0) ?_ ?_ rfl (Inv_told 0 hI)
      · unfold r9_image
        rw [if_pos rfl, if_pos z]
      · unfold r10_image
        rw [if_pos rfl, ← i1, if_pos z]
    · obtain ⟨e1, hK⟩ := i2.resolve_left z
      obtain ⟨u, hu, eu⟩ := RelW_u hK
      obtain ⟨k18, k21, k24⟩ := hK.2.2.2.1.2
      obtain ⟨J, q1, f1, E⟩ := world_from I hu eu k18 k21 k24
      have eJ : (mW J 77 2 0) 119 59 = 1 := by rw [mW_ne _ _ _ (by decide), f1 119 (by omega), ← i1, e1]
      obtain ⟨M, q2, m58, m60, md, mr, mk, m0, _⟩ := image_m (.inl rfl) (mW J 77 2 0) (fun _ => by rw [eJ]; exact one_n0)
      rw [if_pos rfl] at q2
      have c1 : r9_image I 0 = some (1, mW J 77 2 0) := by
        unfold r9_image
        rw [if_pos rfl, if_neg z, q1, Option.bind_some]
        rfl
      refine ex2 c1 q2 rfl ?_
      have ZJ : ∀ a, a ≠ 119 → (mW (mW (mW (mW (mW J 77 2 0) 119 0 0) 119 58 0) 119 59 1) 119 60 0) a = (mW J 77 2 0) a := fun a ha => by rw [mW_ne _ _ _ ha, mW_ne _ _ _ ha, mW_ne _ _ _ ha, mW_ne _ _ _ ha]
      have lo : ∀ a, ¬ mRow a → a ≠ 77 → M a = J a := fun a h1 h2 => by rw [mr a h1, ZJ a (fun q => h1 (by rw [q]; unfold mRow; omega)), mW_ne _ _ _ h2]
      have lk : ∀ k, ¬ mFld k → k ≠ 0 → k ≠ 58 → k ≠ 59 → M 119 k = I 119 k := fun k h1 h2 h3 h4 => by rw [mk k h1, mW_off _ _ (fun q => h1 (by rw [q]; unfold mFld; omega)), mW_off _ _ h4, mW_off _ _ h3, mW_off _ _ h2, mW_ne _ _ _ (by decide), f1 119 (by omega)]
      have m154 : M 154 = I 154 := by rw [m0 rfl, ZJ 154 (by decide), mW_ne _ _ _ (by decide), f1 154 (by omega)]
      have big : ∀ a, 35 ≤ a → a ≤ 118 → a ≠ 77 → M a = I a := fun a h1 h2 h3 => by rw [lo a (by unfold mRow; omega) h3, f1 a (by omega)]
      have hWM : RelW (mW M 119 3 0) (mW M 119 3 0) := by
        refine RelW_rg (c := fun k => I (k + 42)) (G := unf (I 154)) ?_ ?_ hK
        · have ec : ∀ a, 3 ≤ a → a ≤ 34 → (mW M 119 3 0) a = J a := fun a h1 h2 => by rw [mW_ne _ _ _ (by omega), lo a (by unfold mRow; omega) (by omega)]
          unfold EqC at *
          rw [ec 3 (by decide) (by decide), ec 4 (by decide) (by decide), ec 5 (by decide) (by decide), ec 6 (by decide) (by decide), ec 7 (by decide) (by decide), ec 8 (by decide) (by decide), ec 9 (by decide) (by decide), ec 10 (by decide) (by decide), ec 11 (by decide) (by decide), ec 12 (by decide) (by decide), ec 13 (by decide) (by decide), ec 15 (by decide) (by decide), ec 16 (by decide) (by decide), ec 17 (by decide) (by decide), ec 18 (by decide) (by decide), ec 19 (by decide) (by decide), ec 21 (by decide) (by decide), ec 22 (by decide) (by decide), ec 24 (by decide) (by decide), ec 25 (by decide) (by decide), ec 27 (by decide) (by decide), ec 28 (by decide) (by decide), ec 29 (by decide) (by decide), ec 30 (by decide) (by decide), ec 31 (by decide) (by decide), ec 32 (by decide) (by decide), ec 34 (by decide) (by decide)]
          exact E
        · intro j hj
          have e3 : (mW M 119 3 0) (cellOf j).1 (cellOf j).2 = M (cellOf j).1 (cellOf j).2 := by
            rw [mW_rd]
            by_cases z1 : (cellOf j).1 = 119
            · rw [if_pos z1, if_neg (fun q => by have := ((cell_row hj).2 z1).1; rw [q] at this; revert this; decide)]
            · rw [if_neg z1]
          rw [e3, md j hj, m154, unf_pos, (cell_ok hj).1]
      refine ⟨hWM, ?_, ?_, ?_, ?_, ?_, hs⟩
      · obtain ⟨f, hf, ef⟩ := RelU_first hU
        refine RelU_zero hf ?_ (mW_at _ _ _ _) ?_
        · rw [mW_ne _ _ _ (by decide), mr 77 (by decide), ZJ 77 (by decide), mW_at]
        · rw [mW_ne _ _ _ (by decide), mr 77 (by decide), ZJ 77 (by decide), mW_off _ _ (by decide), f1 77 (by omega), ef]
      · have e0 : (mW M 119 3 0) 0 = I 0 := by rw [mW_ne _ _ _ (by decide), lo 0 (by decide) (by decide), f1 0 (by omega)]
        have e59 : (mW M 119 3 0) 119 59 = 1 := by rw [mW_off _ _ (by decide), mk 59 (by decide), mW_off _ _ (by decide), mW_at]
        have e154 : (mW M 119 3 0) 154 = I 154 := by rw [mW_ne _ _ _ (by decide), m154]
        unfold RelI
        rw [e0, e59, e154]
        refine ⟨e1, .inr ⟨e1, RelW_congr (c := fun k => I (k + 42)) (G := unf (I 154)) (fun a ha => ?_) (fun a ha => rfl) (fun k hk => rfl) hK⟩⟩
        show (mW M 119 3 0) (a + 42) = I (a + 42)
        rw [mW_ne _ _ _ (by omega), big (a + 42) (by omega) (by omega) (by omega)]
      · rw [mW_ne _ _ _ (show 109 ≠ 119 by decide), mW_ne _ _ _ (show 110 ≠ 119 by decide), mW_ne _ _ _ (show 129 ≠ 119 by decide), mW_off _ _ (show 15 ≠ 3 by decide), big 109 (by decide) (by decide) (by decide), big 110 (by decide) (by decide) (by decide), lk 15 (by decide) (by decide) (by decide) (by decide), lo 129 (by decide) (by decide), f1 129 (by omega)]
        exact hT
      · rw [mW_ne _ _ _ (show 109 ≠ 119 by decide), mW_off _ _ (show 35 ≠ 3 by decide), mW_off _ _ (show 36 ≠ 3 by decide), big 109 (by decide) (by decide) (by decide), lk 35 (by decide) (by decide) (by decide) (by decide), lk 36 (by decide) (by decide) (by decide) (by decide)]
        exact hF
      · rw [mW_off _ _ (show 5 ≠ 3 by decide), mW_ne _ _ _ (show 130 ≠ 119 by decide), lk 5 (by decide) (by decide) (by decide) (by decide), lo 130 (by decide) (by decide), f1 130 (by omega)]
        exact hX
  · obtain ⟨u, hu, eu⟩ := RelW_u hW
    obtain ⟨k18, k21, k24⟩ := hW.2.2.2.1.2
    obtain ⟨J, q1, f1, E⟩ := world_to I hu eu k18 k21 k24
    obtain ⟨M, q2, m58, m60, md, mr, mk, _, m1⟩ := image_m (.inr rfl) (mW J 0 3 1) (fun q => absurd q one_n0)
    rw [if_neg one_n0] at q2
    obtain ⟨m1, m2⟩ := m1 rfl
    have c1 : r9_image I 1 = some (1, mW J 0 3 1) := by
      unfold r9_image
      rw [if_neg one_n0, q1, Option.bind_some]
    refine ex2 c1 q2 rfl ?_
    have lo : ∀ a, a ≠ 0 → a ≠ 119 → a ≠ 154 → M a = J a := fun a h1 h2 h3 => by rw [m1 a h2 h3, mW_ne _ _ _ h2, mW_ne _ _ _ h2, mW_ne _ _ _ h2, mW_ne _ _ _ h2, mW_ne _ _ _ h1]
    have same : ∀ a, a ≠ 0 → a ≠ 119 → a ≠ 154 → ¬ (45 ≤ a ∧ a ≤ 76) → M a = I a := fun a h1 h2 h3 h4 => by rw [lo a h1 h2 h3, f1 a h4]
    have lk : ∀ k, k ≠ 0 → k ≠ 58 → k ≠ 59 → k ≠ 60 → M 119 k = I 119 k := fun k h1 h2 h3 h4 => by rw [m2 k h4, mW_off _ _ h4, mW_off _ _ h3, mW_off _ _ h2, mW_off _ _ h1, mW_ne _ _ _ (by decide), f1 119 (by omega)]
    have eG : EqM I (unf (M 154)) := by
      intro j hj
      rw [unf_pos, (cell_ok hj).1, ← md j hj]
      have n0 := (cell_ok hj).2.1
      have r := (cell_row hj).1
      by_cases z1 : (cellOf j).1 = 119
      · have fl := (cell_row hj).2 z1
        rw [z1]
        obtain ⟨fa, fb⟩ := fl
        unfold mFld at fa
        exact lk _ (by omega) (by omega) (by omega) (by omega)
      · unfold mRow at r
        rw [same _ (by omega) (by omega) (by omega) (by omega)]
    refine ⟨RelW_congr (fun a ha => same a (by omega) (by omega) (by omega) (by omega)) (fun a ha => same a (by omega) (by omega) (by omega) (by omega)) (fun k hk => lk k (by omega) (by omega) (by omega) (by omega)) hW, RelU_congr (fun a h1 h2 => same a (by omega) (by omega) (by omega) (by omega)) (same 121 (by decide) (by decide) (by decide) (by omega)) (lk 3 (by decide) (by decide) (by decide) (by decide)) (lk 6 (by decide) (by decide) (by decide) (by decide)) (lk 7 (by decide) (by decide) (by decide) (by decide)) hU, ?_, ?_, ?_, ?_, hs⟩
    · have e0 : M 0 3 = 1 := by rw [m1 0 (by decide) (by decide), mW_ne _ _ _ (by decide), mW_ne _ _ _ (by decide), mW_ne _ _ _ (by decide), mW_ne _ _ _ (by decide), mW_at]
      have e59 : M 119 59 = 1 := by rw [m2 59 (by decide), mW_off _ _ (by decide), mW_at]
      unfold RelI
      rw [e0, e59]
      refine ⟨rfl, .inr ⟨rfl, RelW_congr (c := fun k => J (k + 42)) (G := unf (M 154)) (fun a ha => lo (a + 42) (by omega) (by omega) (by omega)) (fun a ha => rfl) (fun k hk => rfl) (RelW_rg E eG hW)⟩⟩
    · rw [same 109 (by decide) (by decide) (by decide) (by omega), same 110 (by decide) (by decide) (by decide) (by omega), same 129 (by decide) (by decide) (by decide) (by omega), lk 15 (by decide) (by decide) (by decide) (by decide)]
      exact hT
    · rw [same 109 (by decide) (by decide) (by decide) (by omega), lk 35 (by decide) (by decide) (by decide) (by decide), lk 36 (by decide) (by decide) (by decide) (by decide)]
      exact hF
    · rw [same 130 (by decide) (by decide) (by decide) (by omega), lk 5 (by decide) (by decide) (by decide) (by decide)]
      exact hX

/-! OPS THAT READ OR SET LITTLE -/
theorem ex2 {A : Option (Int32 × mI)} {B : mI → Option (Int32 × mI)} {s : Nat} {v v' : Int32} {I1 I2 : mI} (h1 : A = some (v, I1)) (h2 : B I1 = some (v', I2)) (e : v' = v) (h3 : Inv I2 s) : ∃ (v : Int32) (I1 : mI) (I2 : mI), A = some (v, I1) ∧ B I1 = some (v, I2) ∧ Inv I2 s := by
  subst e
  exact ⟨_, _, _, h1, h2, h3⟩
theorem ex1 {A : Option Int32} {B : Option (Int32 × mI)} {s : Nat} {v v' : Int32} {I2 : mI} (h1 : A = some v) (h2 : B = some (v', I2)) (e : v' = v) (h3 : Inv I2 s) : ∃ (v : Int32) (I2 : mI), A = some v ∧ B = some (v, I2) ∧ Inv I2 s := by
  subst e
  exact ⟨_, _, h1, h2, h3⟩
/-- what only the reference's field told changes -/
theorem Inv_told {I : mI} {s : Nat} (x : Int32) (h : Inv I s) : Inv (mW I 119 0 x) s := ⟨h.1, RelU_congr (I := I) (fun a h1 h2 => mW_ne _ _ _ (by omega)) rfl rfl rfl rfl h.2.1, h.2.2.1, h.2.2.2.1, h.2.2.2.2.1, h.2.2.2.2.2.1, h.2.2.2.2.2.2⟩
theorem RelS_draw {f p w t l N : Nat → Int32} (h : RelS f p w t l N) (x : Int32) : RelS (mU f 11 x) p w t l (mU N 1 x) := by
  obtain ⟨⟨a1, a2, a3, a4, a5, a6, a7, a8, a9⟩, b1, b2, b3, b4⟩ := h
  refine ⟨⟨a1, a2, a3, a4, a5, a6, a7, rfl, a9⟩, fun k hk => ?_, fun k hk => ?_, fun k hk => ?_, fun k hk => ?_⟩
  · rw [mU_ne _ _ (by omega)]; exact b1 k hk
  · rw [mU_ne _ _ (by omega)]; exact b2 k hk
  · rw [mU_ne _ _ (by omega)]; exact b3 k hk
  · rw [mU_ne _ _ (by omega)]; exact b4 k hk
theorem WfS_up {N : Nat → Int32} {np nq : Int32} (h : WfS N np nq) {k : Nat} {x : Int32} (h2 : k ≠ 2) (h9 : k < 9) : WfS (mU N k x) np nq := by
  obtain ⟨a, b, c, d⟩ := h
  refine ⟨by rw [mU_ne _ _ (by omega)]; exact a, fun j hj => by rw [mU_ne _ _ (by omega)]; exact b j hj, fun j hj e => ?_, fun j hj e => by rw [mU_ne _ _ (by omega)]; exact d j hj e⟩
  rw [mU_ne _ _ (by omega), mU_ne _ _ (by omega)]
  exact c j hj e
theorem op_state : S_state Inv := by
  intro I s h x0
  obtain ⟨f, hf, ef⟩ := RelU_first h.2.1
  refine ex2 (B := fun J => r10_state J x0) rfl rfl (h.1.1.1.1.2.2.2.2.2.2.2.1).symm ?_
  exact ⟨⟨⟨RelS_draw h.1.1.1 x0, WfS_up h.1.1.2 (by decide) (by decide)⟩, h.1.2⟩, RelU_zero hf rfl rfl ef, h.2.2.1, h.2.2.2.1, h.2.2.2.2.1, h.2.2.2.2.2.1, h.2.2.2.2.2.2⟩
theorem op_fault : S_fault Inv := by
  intro I s h x0
  refine ⟨mW I 119 0 0, ?_, Inv_told 0 h⟩
  unfold r10_fault r9_fault
  rw [h.2.2.2.2.1.1, h.2.2.2.2.1.2]
  by_cases a : x0 = 0
  · simp only [if_pos a, Option.bind_some]
  · by_cases b : x0 = 1
    · simp only [if_neg a, if_pos b, Option.bind_some]
    · simp only [if_neg a, if_neg b, Option.bind_some]
theorem op_look : S_look Inv := by
  intro I s h x0
  refine ⟨mW I 119 0 0, ?_, Inv_told 0 h⟩
  obtain ⟨u, f, hu, hf, e1, e2, e3, hs⟩ := h.2.1
  obtain ⟨⟨⟨⟨a1, a2, a3, a4, a5, a6, a7, a8, a9⟩, _⟩, _⟩, ⟨⟨b1, b2, _⟩, _⟩, ⟨n1, _, p1, p2, _⟩, ⟨⟨n2, _, q1, q2, _⟩, _⟩, ⟨n3, _, l1, l2, _⟩, ⟨n4, u4, _, _, _, w1, w2, _⟩, _⟩ := h.1
  unfold r10_look r9_look r10_dry
  rw [a1, a2, a3, a4, a5, a6, a7, a8, a9, b1, b2, p1, p2, q1, q2, l1, l2, w1, w2, e1, e2]
  by_cases q0 : x0 = 0
  · rw [if_pos q0, if_pos q0]
  rw [if_neg q0, if_neg q0]
  by_cases q1 : x0 = 1
  · rw [if_pos q1, if_pos q1]
  rw [if_neg q1, if_neg q1]
  by_cases q2 : x0 = 2
  · rw [if_pos q2, if_pos q2]
  rw [if_neg q2, if_neg q2]
  by_cases q3 : x0 = 3
  · rw [if_pos q3, if_pos q3]
  rw [if_neg q3, if_neg q3]
  by_cases q4 : x0 = 4
  · rw [if_pos q4, if_pos q4]; rfl
  rw [if_neg q4, if_neg q4]
  by_cases q5 : x0 = 5
  · rw [if_pos q5, if_pos q5]
  rw [if_neg q5, if_neg q5]
  by_cases q6 : x0 = 6
  · rw [if_pos q6, if_pos q6]
  rw [if_neg q6, if_neg q6]
  by_cases q7 : x0 = 7
  · rw [if_pos q7, if_pos q7]
  rw [if_neg q7, if_neg q7]
  by_cases q8 : x0 = 8
  · rw [if_pos q8, if_pos q8]
  rw [if_neg q8, if_neg q8]
  by_cases q9 : x0 = 9
  · rw [if_pos q9, if_pos q9]
  rw [if_neg q9, if_neg q9]
  by_cases q10 : x0 = 10
  · rw [if_pos q10, if_pos q10]
  rw [if_neg q10, if_neg q10]
  by_cases q11 : x0 = 11
  · rw [if_pos q11, if_pos q11]
  rw [if_neg q11, if_neg q11]
  by_cases q12 : x0 = 12
  · rw [if_pos q12, if_pos q12]
  rw [if_neg q12, if_neg q12]
  by_cases q13 : x0 = 13
  · rw [if_pos q13, if_pos q13]
  rw [if_neg q13, if_neg q13]
  by_cases q14 : x0 = 14
  · rw [if_pos q14, if_pos q14]
  rw [if_neg q14, if_neg q14]
  by_cases q15 : x0 = 15
  · rw [if_pos q15, if_pos q15]; rfl
  rw [if_neg q15, if_neg q15]
  rfl
theorem RelC_n {I : mI} (h : RelW I I) : ∃ np nq, np ≤ 12 ∧ nq ≤ 6 ∧ I 8 6 = nI np ∧ I 119 6 = nI np ∧ I 8 7 = nI nq ∧ I 119 7 = nI nq := by
  obtain ⟨⟨a, b, _⟩, ⟨np, hp, ep⟩, ⟨nq, hq, eq⟩, _⟩ := h.2.1
  exact ⟨np, nq, hp, hq, by rw [a, ep], ep, by rw [b, eq], eq⟩
theorem hasPlayer_t {I : mI} {x : Int32} {nq : Nat} (hq : nq ≤ 6) (e : I 8 7 = nI nq) (h : r0_hasPlayer I x ≠ 0) : ∃ k, k < nq ∧ x = nI k := by
  unfold r0_hasPlayer at h
  rw [e] at h
  by_cases a : x < 0
  · exact absurd (if_pos a) h
  · by_cases b : nI nq ≤ x
    · exact absurd (by rw [if_neg a, if_pos b]) h
    · exact ix_of a b (by omega)
theorem hasPiece_t {I : mI} {x : Int32} {np : Nat} (hq : np ≤ 12) (e : I 8 6 = nI np) (h : r0_hasPiece I x ≠ 0) : ∃ k, k < np ∧ x = nI k := by
  unfold r0_hasPiece at h
  rw [e] at h
  by_cases a : x < 0
  · exact absurd (if_pos a) h
  · by_cases b : nI np ≤ x
    · exact absurd (by rw [if_neg a, if_pos b]) h
    · exact ix_of a b (by omega)
theorem nI_lit (k : Nat) : nI k = Int32.ofNat k := rfl
theorem hasPlayer_y {I : mI} {nq k : Nat} (hq : nq ≤ 6) (e : I 8 7 = nI nq) (h : k < nq) : r0_hasPlayer I (nI k) = 1 := by
  unfold r0_hasPlayer
  rw [e, if_neg (nI_pos (by omega)), if_neg (nI_ge h (by omega)), if_neg (show ¬ ((6 : Int32) ≤ nI k) from nI_ge (b := 6) (by omega) (by omega))]
theorem hasPiece_y {I : mI} {np k : Nat} (hq : np ≤ 12) (e : I 8 6 = nI np) (h : k < np) : r0_hasPiece I (nI k) = 1 := by
  unfold r0_hasPiece
  rw [e, if_neg (nI_pos (by omega)), if_neg (nI_ge h (by omega)), if_neg (show ¬ ((12 : Int32) ≤ nI k) from nI_ge (b := 12) (by omega) (by omega))]
theorem isPlayer_e {I J : mI} {nq : Nat} (hq : nq ≤ 6) (e : I 8 7 = nI nq) (e2 : J 119 7 = nI nq) (x : Int32) : r10_isPlayer J x = r0_hasPlayer I x := by
  unfold r10_isPlayer r0_hasPlayer
  rw [e, e2]
  by_cases a : x < 0
  · rw [if_pos a, if_pos a]
  · rw [if_neg a, if_neg a]
    by_cases b : nI nq ≤ x
    · rw [if_pos b, if_pos b]
    · rw [if_neg b, if_neg b]
      obtain ⟨k, hk, rfl⟩ := ix_of a b (by omega)
      rw [if_neg (show ¬ ((6 : Int32) ≤ nI k) from nI_ge (b := 6) (by omega) (by omega))]
theorem isPiece_e {I J : mI} {np : Nat} (hq : np ≤ 12) (e : I 8 6 = nI np) (e2 : J 119 6 = nI np) (x : Int32) : r10_isPiece J x = r0_hasPiece I x := by
  unfold r10_isPiece r0_hasPiece
  rw [e, e2]
  by_cases a : x < 0
  · rw [if_pos a, if_pos a]
  · rw [if_neg a, if_neg a]
    by_cases b : nI np ≤ x
    · rw [if_pos b, if_pos b]
    · rw [if_neg b, if_neg b]
      obtain ⟨k, hk, rfl⟩ := ix_of a b (by omega)
      rw [if_neg (show ¬ ((12 : Int32) ≤ nI k) from nI_ge (b := 12) (by omega) (by omega))]
theorem nI_addl {k j : Nat} {c : Int32} (hc : c = nI j) : c + nI k = nI (j + k) := by rw [hc, nI_add]
theorem op_who : S_who Inv := by
  intro I s h x0 x1
  obtain ⟨np, nq, hp, hq, e1, e2, e3, e4⟩ := RelC_n h.1
  unfold r9_who r10_who
  rw [isPlayer_e (I := I) (J := mW I 119 0 0) hq e3 e4]
  by_cases a : r0_hasPlayer I x0 = 0
  · rw [if_pos a, if_pos a]
    exact ex1 rfl rfl rfl (Inv_told 0 h)
  · rw [if_neg a, if_neg a]
    obtain ⟨k, hk, rfl⟩ := hasPlayer_t hq e3 a
    rw [nI_addl (show (41 : Int32) = nI 41 by decide)]
    by_cases b0 : x1 = 0
    · simp only [if_pos b0, mLd_n (show k < 6 by omega) (show 6 < 2 ^ 31 by decide), Option.bind_some]
      exact ex1 rfl rfl (h.1.2.1.1.2.2.2.2.2.1 k (by omega)).symm (Inv_told 0 h)
    by_cases b1 : x1 = 1
    · simp only [if_neg b0, if_pos b1, mLd_n (show k < 6 by omega) (show 6 < 2 ^ 31 by decide), Option.bind_some]
      exact ex1 rfl rfl (h.1.2.1.1.2.2.2.2.2.2 k (by omega)).symm (Inv_told 0 h)
    by_cases b2 : x1 = 2
    · simp only [if_neg b0, if_neg b1, if_pos b2, mLd_n (show k < 6 by omega) (show 6 < 2 ^ 31 by decide), mLd_n (show 41 + k < 47 by omega) (show 47 < 2 ^ 31 by decide), Option.bind_some]
      exact ex1 rfl rfl (h.1.1.1.2.2.2.2 k (by omega)).symm (Inv_told 0 h)
    · simp only [if_neg b0, if_neg b1, if_neg b2, Option.bind_some]
      exact ex1 rfl rfl rfl (Inv_told 0 h)
theorem isString_i {x : Int32} (h : ¬ r10_isString x = 0) : ∃ k, k < 8 ∧ x = nI k := by
  unfold r10_isString at h
  by_cases a : x < 0
  · exact absurd (if_pos a) h
  · by_cases b : (8 : Int32) ≤ x
    · exact absurd (by rw [if_neg a, if_pos b]) h
    · exact ix_of (n := 8) a b (by decide)
theorem isString_l {x : Int32} : r10_isString x = if x < 0 then 0 else if x < 8 then 1 else 0 := by
  unfold r10_isString
  by_cases a : x < 0
  · rw [if_pos a, if_pos a]
  · rw [if_neg a, if_neg a]
    by_cases b : (8 : Int32) ≤ x
    · rw [if_pos b, if_neg (by rw [i32_lt]; rw [i32_le] at b; omega)]
    · rw [if_neg b, if_pos (by rw [i32_lt]; rw [i32_le] at b; omega)]
theorem op_string : S_string Inv := by
  intro I s h x0 x1
  unfold r9_string r10_string
  rw [isString_l]
  by_cases a : x0 < 0
  · rw [if_pos a, if_pos a, if_pos (show (0 : Int32) = 0 from rfl)]
    exact ex1 rfl rfl rfl (Inv_told 0 h)
  by_cases b : x0 < 8
  · rw [if_neg a, if_neg a, if_pos b, if_pos b, if_neg (show ¬ ((1 : Int32) = 0) by decide)]
    obtain ⟨k, hk, rfl⟩ := ix_of (n := 8) a (show ¬ ((8 : Int32) ≤ x0) by rw [i32_lt] at b; rw [i32_le]; omega) (by decide)
    rw [nI_addl (show (9 : Int32) = nI 9 by decide)]
    by_cases b0 : x1 = 0
    · simp only [if_pos b0, mLd_n hk (show 8 < 2 ^ 31 by decide), mLd_n (show 9 + k < 47 by omega) (show 47 < 2 ^ 31 by decide), Option.bind_some]
      exact ex1 rfl rfl (h.1.1.1.2.1 k hk).symm (Inv_told 0 h)
    by_cases b1 : x1 = 1
    · simp only [if_neg b0, if_pos b1, mLd_n hk (show 8 < 2 ^ 31 by decide), Option.bind_some]
      exact ex1 rfl rfl (h.1.2.2.2.2.2.2.1.1.2.2.2.1 k hk).symm (Inv_told 0 h)
    · simp only [if_neg b0, if_neg b1, Option.bind_some]
      exact ex1 rfl rfl rfl (Inv_told 0 h)
  · rw [if_neg a, if_neg a, if_neg b, if_neg b, if_pos (show (0 : Int32) = 0 from rfl)]
    exact ex1 rfl rfl rfl (Inv_told 0 h)
theorem and1_0 : (0 : Int32) &&& 1 = 0 := by decide
theorem and1_1 : (1 : Int32) &&& 1 = 1 := by decide
theorem op_end : S_end Inv := by
  intro I s h x0
  obtain ⟨n, hn, e1, e2, e3, e4⟩ := h.2.2.2.1
  by_cases a : x0 < 0
  · refine ex2 (A := r9_end I x0) (B := fun J => r10_end J x0) (v := 0) (v' := 0) (I1 := I) ?_ ?_ rfl (Inv_told 0 h)
    · unfold r9_end r4_cutTo; rw [if_pos a, Option.bind_some, and1_0]
    · show r10_end I x0 = _
      unfold r10_end r10_isIn; rw [if_pos a, if_pos (show (0 : Int32) = 0 from rfl)]
  by_cases b : x0 ≤ nI n
  · have hb : ¬ nI n < x0 := by rw [i32_lt]; rw [i32_le] at b; omega
    refine ex2 (A := r9_end I x0) (B := fun J => r10_end J x0) (v := 1) (v' := 1) (I1 := mW I 109 1 x0) (I2 := mW (mW (mW I 109 1 x0) 119 0 0) 119 15 x0) ?_ ?_ rfl ?_
    · unfold r9_end r4_cutTo; rw [if_neg a, e1, if_pos b, Option.bind_some, and1_1]
    · show r10_end _ x0 = _
      unfold r10_end r10_isIn
      rw [show (mW I 109 1 x0) 119 15 = nI n from e2, if_neg a, if_neg hb, if_neg (show ¬ ((1 : Int32) = 0) by decide)]
    · obtain ⟨k, hk, rfl⟩ := nI_of2 (M := nI n) (nI_toInt (by omega)) a b
      exact ⟨h.1, RelU_congr (I := I) (fun a h1 h2 => by rw [mW_ne _ _ _ (by omega), mW_ne _ _ _ (by omega), mW_ne _ _ _ (by omega)]) rfl rfl rfl rfl h.2.1, h.2.2.1, ⟨k, by omega, rfl, rfl, e3, e4⟩, h.2.2.2.2.1, h.2.2.2.2.2.1, h.2.2.2.2.2.2⟩
  · have hb : nI n < x0 := by rw [i32_lt]; rw [i32_le] at b; omega
    refine ex2 (A := r9_end I x0) (B := fun J => r10_end J x0) (v := 0) (v' := 0) (I1 := I) ?_ ?_ rfl (Inv_told 0 h)
    · unfold r9_end r4_cutTo; rw [if_neg a, e1, if_neg b, Option.bind_some, and1_0]
    · show r10_end I x0 = _
      unfold r10_end r10_isIn; rw [e2, if_neg a, if_pos hb, if_pos (show (0 : Int32) = 0 from rfl)]

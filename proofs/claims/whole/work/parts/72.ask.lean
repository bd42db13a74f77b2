/-! THE REFERENCE'S RUN OF THE CODE, AND WHAT THE LAW TELLS -/
theorem cMi_mono (code : Nat → Int32) : ∀ (n i : Nat), cMi code i + n ≤ cMi code (i + n)
  | 0, i => Nat.le_refl _
  | n + 1, i => by
    have h := cMi_mono code n i
    show cMi code i + (n + 1) ≤ cMi code (i + n) + (if code (i + n) &&& 15 = 5 then 2 else 1)
    split <;> omega
theorem cMi_le {code : Nat → Int32} {i j : Nat} (h : i ≤ j) : cMi code i ≤ cMi code j := by
  obtain ⟨d, rfl⟩ := Nat.exists_eq_add_of_le h
  have := cMi_mono code d i
  omega
theorem cMi_lt {code : Nat → Int32} {i j : Nat} (h : i < j) : cMi code i < cMi code j := by
  obtain ⟨d, rfl⟩ := Nat.exists_eq_add_of_le (Nat.le_of_lt h)
  have := cMi_mono code d i
  omega
theorem two_join {o x y : Int32} (ho : (o = 2 ∨ o = 3 ∨ o = 4 ∨ o = 6 ∨ o = 7 ∨ o = 8) ∨ (o = 10 ∨ o = 11)) (hb : o = 10 ∨ o = 11 → (x = 0 ∨ x = 1) ∧ (y = 0 ∨ y = 1)) : r10_twoOf o x y = some (r5_join o x y) := by
  rcases ho with (rfl | rfl | rfl | rfl | rfl | rfl) | h
  · rfl
  · rfl
  · rfl
  · unfold r10_twoOf r5_join
    simp (decide := true) only [reduceIte, ite_some, Option.bind_some]
  · unfold r10_twoOf r5_join
    simp (decide := true) only [reduceIte, ite_some, Option.bind_some]
  · unfold r10_twoOf r5_join
    simp (decide := true) only [reduceIte, ite_some, Option.bind_some]
  · obtain ⟨hx, hy⟩ := hb h
    rcases h with rfl | rfl <;> rcases hx with rfl | rfl <;> rcases hy with rfl | rfl <;> decide
theorem k400 (x : Int32) : 400 * (0 : Int32) + x = x := by rw [Int32.mul_zero, Int32.zero_add]
/-- pushes of the reference -/
theorem runm_push {M : mI} {q e f : Nat} {L : List Int32} {x : Int32} (hq : q < e) (he : e ≤ 400) (hL : L.length < 400) (ho : (M 136 q = 0 ∧ M 137 q = x) ∨ (M 136 q = 1 ∧ ∃ k, k < 12 ∧ M 137 q = nI k ∧ M 142 k = x)) : l10_runs_12 0 (nI e) (f + 1) (nI L.length) (nI q) M = l10_runs_12 0 (nI e) f (nI (x :: L).length) (nI (q + 1)) (mW M 143 L.length x) := by
  rw [l10_runs_12, k400, if_neg (nI_ge hq (by omega)), List.length_cons, ← nI_1 q, ← nI_1 L.length]
  simp only [mLd_n (show q < 1200 by omega) (show 1200 < 2 ^ 31 by decide), Option.bind_some]
  rcases ho with ⟨o, hx⟩ | ⟨o, k, hk, e1, e2⟩
  · simp only [o, hx, reduceIte, Option.bind_some, mSto_n (show L.length < 420 by omega) (show 420 < 2 ^ 31 by decide)]
  · simp only [o, e1, if_neg one_n0, reduceIte, mLd_n hk (show 12 < 2 ^ 31 by decide), e2, Option.bind_some, mSto_n (show L.length < 420 by omega) (show 420 < 2 ^ 31 by decide)]
theorem runm_two {M : mI} {q e f : Nat} {T : List Int32} {x y v o : Int32} (hq : q < e) (he : e ≤ 400) (hL : T.length < 400) (hS : Stk (M 143) (y :: x :: T)) (ho : M 136 q = o) (h0 : ¬ o = 0) (h1 : ¬ o = 1) (h9 : ¬ o = 9) (hv : r10_twoOf o x y = some v) : l10_runs_12 0 (nI e) (f + 1) (nI (y :: x :: T).length) (nI q) M = l10_runs_12 0 (nI e) f (nI (v :: T).length) (nI (q + 1)) (mW M 143 T.length v) := by
  have hy : M 143 (T.length + 1) = y := hS.1
  have hx : M 143 T.length = x := hS.2.1
  rw [l10_runs_12, k400, if_neg (nI_ge hq (by omega)), List.length_cons, List.length_cons, List.length_cons, ← nI_1 q]
  simp only [mLd_n (show q < 1200 by omega) (show 1200 < 2 ^ 31 by decide), Option.bind_some, ho, if_neg h0, if_neg h1, if_neg h9, nI_pred, mLd_n (show T.length < 420 by omega) (show 420 < 2 ^ 31 by decide), mLd_n (show T.length + 1 < 420 by omega) (show 420 < 2 ^ 31 by decide), hx, hy, hv, mSto_n (show T.length < 420 by omega) (show 420 < 2 ^ 31 by decide)]
theorem runm_not {M : mI} {q e f : Nat} {T : List Int32} {x : Int32} (hq : q < e) (he : e ≤ 400) (hL : T.length < 400) (hS : Stk (M 143) (x :: T)) (ho : M 136 q = 9) : l10_runs_12 0 (nI e) (f + 1) (nI (x :: T).length) (nI q) M = l10_runs_12 0 (nI e) f (nI ((1 - x) :: T).length) (nI (q + 1)) (mW M 143 T.length (1 - x)) := by
  have hx : M 143 T.length = x := hS.1
  rw [l10_runs_12, k400, if_neg (nI_ge hq (by omega)), List.length_cons, List.length_cons, ← nI_1 q]
  simp only [mLd_n (show q < 1200 by omega) (show 1200 < 2 ^ 31 by decide), Option.bind_some, ho, if_neg (show ¬ ((9 : Int32) = 0) by decide), if_neg (show ¬ ((9 : Int32) = 1) by decide), reduceIte, nI_pred, mLd_n (show T.length < 420 by omega) (show 420 < 2 ^ 31 by decide), hx, mSto_n (show T.length < 420 by omega) (show 420 < 2 ^ 31 by decide)]
theorem run_m : ∀ (n i f e : Nat) (L : List Int32) (B B' : List Bool) (M : mI) (V code : Nat → Int32), cTyp code n i B = some B' → Tyd B L → Stk (M 143) L → L.length ≤ 31 → i + n = e → cMi code e ≤ 400 → (∀ j, j < e → cOne code (M 136) (M 137) j) → eqOn 12 V (M 142) → cMi code e - cMi code i < f → ∃ h, l10_runs_12 0 (nI (cMi code e)) f (nI L.length) (nI (cMi code i)) M = some (mU M 143 h) ∧ Stk h (cExs V code n i L) := by
  intro n
  induction n with
  | zero =>
    intro i f e L B B' M V code ht hT hS hL hie he hc hv hf
    obtain ⟨f, rfl⟩ : ∃ q, f = q + 1 := ⟨f - 1, by omega⟩
    have : i = e := by omega
    subst this
    refine ⟨M 143, ?_, hS⟩
    rw [l10_runs_12, k400, if_pos (nI_le (Nat.le_refl _) (by omega)), mU_self]
  | succ n ih =>
    intro i f e L B B' M V code ht hT hS hL hie he hc hv hf
    rw [cTyp] at ht
    obtain ⟨B1, hw, ht⟩ := mBind ht
    have hlt : cMi code (i + 1) ≤ cMi code e := cMi_le (by omega)
    have hone := hc i (by omega)
    have fin : ∀ (g k : Nat) (x : Int32) (L1 : List Int32), L1 = cEx V (code i) L → Tyd B1 L1 → L1.length ≤ 31 → Stk (mU (M 143) k x) L1 → cMi code e - cMi code (i + 1) < g → l10_runs_12 0 (nI (cMi code e)) f (nI L.length) (nI (cMi code i)) M = l10_runs_12 0 (nI (cMi code e)) g (nI L1.length) (nI (cMi code (i + 1))) (mW M 143 k x) → ∃ h, l10_runs_12 0 (nI (cMi code e)) f (nI L.length) (nI (cMi code i)) M = some (mU M 143 h) ∧ Stk h (cExs V code (n + 1) i L) := by
      intro g k x L1 e1 hT1 hL1 hS1 hg eq
      obtain ⟨h, q1, q2⟩ := ih (i + 1) g e L1 B1 B' (mW M 143 k x) V code ht hT1 (by rw [mW_row]; exact hS1) hL1 (by omega) he hc hv hg
      refine ⟨h, ?_, ?_⟩
      · rw [eq, q1, mU_mW]
      · rw [cExs, ← e1]; exact q2
    rcases cTy_cases hw (V := V) hT hL with ⟨o, hl, e1, hT1⟩ | ⟨o, hl, ⟨k, hk, ek, e1⟩, hT1⟩ | ⟨o, hz, ⟨x, T, rfl, e1⟩, hT1⟩ | ⟨o, ⟨x, T, rfl, e1⟩, hT1⟩ | ⟨o, ⟨y, x, T, rfl, e1, hb⟩, hT1⟩
    · have hm : cMi code (i + 1) = cMi code i + 1 := by rw [cMi, o, if_neg (by decide)]
      unfold cOne at hone
      rw [o, if_neg (by decide)] at hone
      obtain ⟨g, rfl⟩ : ∃ q, f = q + 1 := ⟨f - 1, by omega⟩
      refine fin g L.length (code i >>> (4 &&& 31)) _ e1.symm (by rw [← e1]; exact hT1) (by rw [List.length_cons]; omega) (Stk_push hS) (by omega) ?_
      rw [hm]
      exact runm_push (by omega) he (by omega) (.inl hone)
    · have hm : cMi code (i + 1) = cMi code i + 1 := by rw [cMi, o, if_neg (by decide)]
      unfold cOne at hone
      rw [o, if_neg (by decide), ek] at hone
      obtain ⟨g, rfl⟩ : ∃ q, f = q + 1 := ⟨f - 1, by omega⟩
      refine fin g L.length (V k) _ e1.symm (by rw [← e1]; exact hT1) (by rw [List.length_cons]; omega) (Stk_push hS) (by omega) ?_
      rw [hm]
      exact runm_push (by omega) he (by omega) (.inr ⟨hone.1, k, hk, hone.2, (hv k hk).symm⟩)
    · have hm : cMi code (i + 1) = cMi code i + 2 := by rw [cMi, o, if_pos rfl]
      unfold cOne at hone
      rw [o, if_pos rfl] at hone
      rw [List.length_cons] at hL
      obtain ⟨g, rfl⟩ : ∃ q, f = q + 1 + 1 := ⟨f - 2, by omega⟩
      have s1 := runm_push (M := M) (q := cMi code i) (e := cMi code e) (f := g + 1) (L := x :: T) (x := code i >>> (4 &&& 31)) (by omega) he (by rw [List.length_cons]; omega) (.inl ⟨hone.1, hone.2.1⟩)
      have hS2 : Stk ((mW M 143 (x :: T).length (code i >>> (4 &&& 31))) 143) ((code i >>> (4 &&& 31)) :: x :: T) := by rw [mW_row]; exact Stk_push hS
      have s2 := runm_two (M := mW M 143 (x :: T).length (code i >>> (4 &&& 31))) (q := cMi code i + 1) (e := cMi code e) (f := g) (T := T) (x := x) (y := code i >>> (4 &&& 31)) (v := x / (code i >>> (4 &&& 31))) (o := 5) (by omega) he (by omega) hS2 hone.2.2 (by decide) (by decide) (by decide) (by
        have hd : mDivO x (code i >>> (4 &&& 31)) = some (x / (code i >>> (4 &&& 31))) := if_neg hz
        unfold r10_twoOf
        simp (decide := true) only [reduceIte, hd, Option.bind_some])
      obtain ⟨h, q1, q2⟩ := ih (i + 1) g e _ B1 B' (mW (mW M 143 (x :: T).length (code i >>> (4 &&& 31))) 143 T.length (x / (code i >>> (4 &&& 31)))) V code ht hT1 (by
        rw [mW_row, mW_row, e1]
        exact ⟨mU_eq _ _ _, Stk_up (Nat.le_refl _) (Stk_up (by rw [List.length_cons]; omega) hS.2)⟩) (by rw [e1, List.length_cons]; omega) (by omega) he hc hv (by omega)
      refine ⟨h, ?_, by rw [cExs]; exact q2⟩
      rw [s1, s2, ← e1, show cMi code i + 1 + 1 = cMi code (i + 1) by omega, q1, mU_mW, mU_mW]
    · have hm : cMi code (i + 1) = cMi code i + 1 := by rw [cMi, o, if_neg (by decide)]
      unfold cOne at hone
      rw [o, if_neg (by decide)] at hone
      rw [List.length_cons] at hL
      obtain ⟨g, rfl⟩ : ∃ q, f = q + 1 := ⟨f - 1, by omega⟩
      refine fin g T.length (1 - x) _ e1.symm (by rw [← e1]; exact hT1) (by rw [List.length_cons]; omega) ⟨mU_eq _ _ _, Stk_up (Nat.le_refl _) hS.2⟩ (by omega) ?_
      rw [hm]
      exact runm_not (by omega) he (by omega) hS hone.1
    · have q5 : ¬ (code i &&& 15 = 5) := by rcases o with (q | q | q | q | q | q) | (q | q) <;> rw [q] <;> decide
      have q0 : ¬ (code i &&& 15 = 0) := by rcases o with (q | q | q | q | q | q) | (q | q) <;> rw [q] <;> decide
      have q1 : ¬ (code i &&& 15 = 1) := by rcases o with (q | q | q | q | q | q) | (q | q) <;> rw [q] <;> decide
      have q9 : ¬ (code i &&& 15 = 9) := by rcases o with (q | q | q | q | q | q) | (q | q) <;> rw [q] <;> decide
      have hm : cMi code (i + 1) = cMi code i + 1 := by rw [cMi, if_neg q5]
      unfold cOne at hone
      rw [if_neg q5] at hone
      rw [List.length_cons, List.length_cons] at hL
      obtain ⟨g, rfl⟩ : ∃ q, f = q + 1 := ⟨f - 1, by omega⟩
      refine fin g T.length (r5_join (code i &&& 15) x y) _ e1.symm (by rw [← e1]; exact hT1) (by rw [List.length_cons]; omega) ⟨mU_eq _ _ _, Stk_up (Nat.le_refl _) hS.2.2⟩ (by omega) ?_
      rw [hm]
      exact runm_two (by omega) he (by omega) hS hone.1 q0 q1 q9 (two_join o hb)
theorem Tyd_one {b : Bool} : ∀ {L : List Int32}, Tyd [b] L → ∃ x, L = [x]
  | [x], _ => ⟨x, rfl⟩
  | [], h => h.elim
  | _ :: _ :: _, h => h.2.elim
/-- a segment of the code on both sides -/
theorem run_both {C M : mI} {a b u : Nat} {t : Bool} (hab : a ≤ b) (hbu : b ≤ u) (hu : u ≤ 400) (hm : cMi (C 17) u ≤ 400) (h3 : C 15 3 = nI u) (ht : cTyp (C 17) (b - a) a [] = some [t]) (hc : ∀ j, j < u → cOne (C 17) (M 136) (M 137) j) (hv : eqOn 12 (C 40) (M 142)) : ∃ x, cExs (C 40) (C 17) (b - a) a [] = [x] ∧ (∃ h, r5_run C (nI a) (nI b) = some (x, mU C 41 h)) ∧ ∃ h, r10_runs M 0 (nI (cMi (C 17) a)) (nI (cMi (C 17) b)) = some (x, mU M 143 h) := by
  have hb1 : cMi (C 17) b ≤ cMi (C 17) u := cMi_le hbu
  obtain ⟨h, q1, q2, q3⟩ := run_c (b - a) a FU b u [] [] [t] C ht trivial trivial (by decide) (by omega) hbu hu h3 (FU_lt (by omega))
  obtain ⟨h', q4, q5⟩ := run_m (b - a) a FU b [] [] [t] M (C 40) (C 17) ht trivial trivial (by decide) (by omega) (by omega) (fun j hj => hc j (by omega)) hv (FU_lt (by omega))
  obtain ⟨x, ex⟩ := Tyd_one q3
  rw [ex] at q1 q2 q5
  refine ⟨x, ex, ⟨h, ?_⟩, h', ?_⟩
  · unfold r5_run
    rw [mMax_0 (by omega), show l5_run_18 (nI b) FU (-1) (nI a) C = _ from q1, Option.bind_some]
    have z : nI [x].length - 1 = 0 := (by decide : nI 1 - 1 = 0)
    simp only [z, reduceIte, Option.bind_some, mU_eq]
    rw [show h 0 = x from q2.1]
  · unfold r10_runs
    rw [k400, show l10_runs_12 0 (nI (cMi (C 17) b)) FU 0 (nI (cMi (C 17) a)) M = _ from q4, Option.bind_some, mU_eq, show h' 0 = x from q5.1]
theorem loop2x {σ τ ρ π : Type} (L : Nat → Nat → σ → Option ρ) (M : Nat → Nat → τ → Option π) (R : Nat → σ → τ → Prop) (Q : ρ → π → Prop) (N : Nat)
    (hend : ∀ a b, R N a b → ∃ u v, (∀ f, L (f + 1) N a = some u) ∧ (∀ g, M (g + 1) N b = some v) ∧ Q u v)
    (hstep : ∀ k a b, k < N → R k a b → (∃ u v, (∀ f, N - k ≤ f → L (f + 1) k a = some u) ∧ (∀ g, N - k ≤ g → M (g + 1) k b = some v) ∧ Q u v) ∨ ∃ a' b', (∀ f, N - k ≤ f → L (f + 1) k a = L f (k + 1) a') ∧ (∀ g, N - k ≤ g → M (g + 1) k b = M g (k + 1) b') ∧ R (k + 1) a' b') :
    ∀ n k f g a b, k + n = N → n < f → n < g → R k a b → ∃ u v, L f k a = some u ∧ M g k b = some v ∧ Q u v := by
  intro n
  induction n with
  | zero =>
    intro k f g a b hk hf hg hR
    obtain ⟨f, rfl⟩ : ∃ q, f = q + 1 := ⟨f - 1, by omega⟩
    obtain ⟨g, rfl⟩ : ∃ q, g = q + 1 := ⟨g - 1, by omega⟩
    have hk : k = N := by omega
    subst hk
    obtain ⟨u, v, h1, h2, h3⟩ := hend a b hR
    exact ⟨u, v, h1 f, h2 g, h3⟩
  | succ n ih =>
    intro k f g a b hk hf hg hR
    obtain ⟨f, rfl⟩ : ∃ q, f = q + 1 := ⟨f - 1, by omega⟩
    obtain ⟨g, rfl⟩ : ∃ q, g = q + 1 := ⟨g - 1, by omega⟩
    rcases hstep k a b (by omega) hR with ⟨u, v, h1, h2, h3⟩ | ⟨a', b', h1, h2, h3⟩
    · exact ⟨u, v, h1 f (by omega), h2 g (by omega), h3⟩
    · obtain ⟨u, v, q1, q2, q3⟩ := ih (k + 1) f g a' b' (by omega) (by omega) (by omega) h3
      exact ⟨u, v, by rw [h1 f (by omega), q1], by rw [h2 g (by omega), q2], q3⟩
theorem cell15 {I : mI} {l c : Nat} (hl : l < 16) (hc : c < 9) {k : Int32} (hk : k = nI c) : r6_cell_15 I (nI l) k = some (I 16 (9 * l + c)) := by
  unfold r6_cell_15
  rw [hk, show (9 : Int32) = nI 9 from rfl, nI_mul, nI_add, Nat.mul_comm l 9, if_neg (nI_pos (by omega)), if_neg (show ¬ (144 : Int32) ≤ nI (9 * l + c) from nI_ge (b := 144) (by omega) (by decide)), mLd_n (by omega) (by decide), Option.bind_some, Option.bind_some]
theorem mU_mU (I : mI) (a : Nat) (g h : Nat → Int32) : mU (mU I a g) a h = mU I a h := by
  funext c
  unfold mU
  by_cases e : c = a
  · rw [if_pos e, if_pos e]
  · rw [if_neg e, if_neg e, if_neg e]
theorem ask_e {C M : mI} (s : Nat) (w wo most : Int32) (hl : RelLaw (C 15) (C 16) (C 17) (M 131 0) (M 132) (M 133) (M 134) (M 135) (M 136) (M 137)) (hv : eqOn 12 (C 40) (M 142)) : ∃ t a h h', l5_ask_42 s w FU 0 0 0 C = some (t, a, mU C 41 h) ∧ r10_lawTells M w wo most = some (r10_held (if t = 0 then wo else a) 0 most, mU M 143 h') := by
  obtain ⟨n, u, hn, hu, hmu, em, e2, e3, hc, hl⟩ := hl
  obtain ⟨U, W, q1, q2, q3⟩ := loop2x (fun f k (a : Int32 × Int32 × mI) => l5_ask_42 s w f a.1 a.2.1 (nI k) a.2.2) (fun f k b => l10_lineOf_2 w f (nI k) b)
    (fun k a b => ∃ h h', a = (0, 0, mU C 41 h) ∧ b = mU M 143 h')
    (fun U W => ∃ h h', (∃ a, U = (0, a, mU C 41 h) ∧ W = .inr (mU M 143 h')) ∨ (∃ l a b x, l < n ∧ a ≤ b ∧ b ≤ u ∧ M 133 l = nI (cMi (C 17) a) ∧ M 134 l = nI (cMi (C 17) b) ∧ cTyp (C 17) (b - a) a [] = some [false] ∧ cExs (C 40) (C 17) (b - a) a [] = [x] ∧ U = (1, x, mU C 41 h) ∧ W = .inl (nI l, mU M 143 h'))) n
    (fun a b hab => by
      obtain ⟨h, h', rfl, rfl⟩ := hab
      refine ⟨(0, 0, mU C 41 h), .inr (mU M 143 h'), fun f => ?_, fun f => ?_, h, h', .inl ⟨0, rfl, rfl⟩⟩
      · show l5_ask_42 s w (f + 1) 0 0 (nI n) (mU C 41 h) = _
        rw [l5_ask_42, show (mU C 41 h) 15 2 = nI n from e2, if_pos (nI_le (Nat.le_refl _) (by omega))]
      · show l10_lineOf_2 _ (f + 1) _ _ = _
        rw [l10_lineOf_2, show (mU M 143 h') 131 0 = nI n from em, if_pos (nI_le (Nat.le_refl _) (by omega))])
    (fun k a b hk hab => by
      obtain ⟨h, h', rfl, rfl⟩ := hab
      obtain ⟨a, b, d, hab, hbd, hdu, c0, c1, c2, c3, f1, f2, f3, t1, t2⟩ := hl k hk
      have g0 : r6_cell_15 (mU C 41 h) (nI k) 0 = some (C 16 (9 * k)) := cell15 (I := mU C 41 h) (l := k) (c := 0) (by omega) (by decide) rfl
      have g1 : ∀ h, r6_cell_15 (mU C 41 h) (nI k) 1 = some (nI a) := fun h => (cell15 (I := mU C 41 h) (l := k) (c := 1) (by omega) (by decide) rfl).trans (congrArg some c1)
      have g2 : r6_cell_15 (mU C 41 h) (nI k) 2 = some (nI b) := (cell15 (I := mU C 41 h) (l := k) (c := 2) (by omega) (by decide) rfl).trans (congrArg some c2)
      have g3 : r6_cell_15 (mU C 41 h) (nI k) 3 = some (nI d) := (cell15 (I := mU C 41 h) (l := k) (c := 3) (by omega) (by decide) rfl).trans (congrArg some c3)
      have p0 : mLd (mU M 143 h') 132 48 (nI k) = some (C 16 (9 * k)) := by rw [mLd_n (by omega) (by decide)]; exact congrArg some c0.symm
      have p2 : mLd (mU M 143 h') 134 48 (nI k) = some (nI (cMi (C 17) b)) := by rw [mLd_n (by omega) (by decide)]; exact congrArg some f2
      have p3 : mLd (mU M 143 h') 135 48 (nI k) = some (nI (cMi (C 17) d)) := by rw [mLd_n (by omega) (by decide)]; exact congrArg some f3
      have lC : ∀ f, l5_ask_42 s w (f + 1) 0 0 (nI k) (mU C 41 h) = (if C 16 (9 * k) = w then (if nI b = nI d then some (1, mU C 41 h) else (r5_run (mU C 41 h) (nI b) (nI d)).bind fun z5 => if (z5.1) = 0 then some (0, z5.2) else some (1, z5.2) : Option (Int32 × mI)).bind fun z4 => (if (z4.1) = 0 then some (0, z4.2) else (r6_cell_15 z4.2 (nI k) 1).bind fun z7 => (r5_run z4.2 z7 (nI b)).bind fun z8 => some (z8.1, z8.2) : Option (Int32 × mI)).bind fun z6 => some (z4.1, z6.1, z6.2) else some (0, 0, mU C 41 h) : Option (Int32 × Int32 × mI)).bind fun z1 => l5_ask_42 s w f z1.1 z1.2.1 (nI (k + 1)) z1.2.2 := by
        intro f
        rw [l5_ask_42, show (mU C 41 h) 15 2 = nI n from e2, if_neg (nI_ge hk (by omega)), if_pos rfl, g0, Option.bind_some, g2, Option.bind_some, g3, Option.bind_some, nI_1]
      have lM : ∀ f, l10_lineOf_2 w (f + 1) (nI k) (mU M 143 h') = if C 16 (9 * k) = w then (if nI (cMi (C 17) b) = nI (cMi (C 17) d) then some (.inl (nI k, mU M 143 h')) else (r10_runs (mU M 143 h') 0 (nI (cMi (C 17) b)) (nI (cMi (C 17) d))).bind fun z5 => if (z5.1) = 0 then l10_lineOf_2 w f (nI (k + 1)) z5.2 else some (.inl (nI k, z5.2))) else l10_lineOf_2 w f (nI (k + 1)) (mU M 143 h') := by
        intro f
        rw [l10_lineOf_2, show (mU M 143 h') 131 0 = nI n from em, if_neg (nI_ge hk (by omega)), p0, Option.bind_some, p2, Option.bind_some, p3, Option.bind_some, Option.bind_some, Option.bind_some, nI_1]
      have told : ∀ f x h2, l5_ask_42 s w (f + 1) 1 x (nI (k + 1)) (mU C 41 h2) = some (1, x, mU C 41 h2) := by
        intro f x h2
        rw [l5_ask_42, if_neg one_n0]
        split <;> rfl
      have hdm : cMi (C 17) d ≤ cMi (C 17) u := cMi_le hdu
      have hbm : cMi (C 17) b ≤ cMi (C 17) d := cMi_le hbd
      have got : ∀ (h1 h2 : Nat → Int32), (∀ f, l5_ask_42 s w (f + 1) 0 0 (nI k) (mU C 41 h) = (some (1, mU C 41 h1) : Option (Int32 × mI)).bind fun z4 => ((if (z4.1) = 0 then some (0, z4.2) else (r6_cell_15 z4.2 (nI k) 1).bind fun z7 => (r5_run z4.2 z7 (nI b)).bind fun z8 => some (z8.1, z8.2) : Option (Int32 × mI)).bind fun z6 => some (z4.1, z6.1, z6.2)).bind fun z1 => l5_ask_42 s w f z1.1 z1.2.1 (nI (k + 1)) z1.2.2) → (∀ f, l10_lineOf_2 w (f + 1) (nI k) (mU M 143 h') = some (.inl (nI k, mU M 143 h2))) → ∃ U W, (∀ f, n - k ≤ f → l5_ask_42 s w (f + 1) 0 0 (nI k) (mU C 41 h) = some U) ∧ (∀ g, n - k ≤ g → l10_lineOf_2 w (g + 1) (nI k) (mU M 143 h') = some W) ∧ ∃ h h', (∃ a, U = (0, a, mU C 41 h) ∧ W = .inr (mU M 143 h')) ∨ (∃ l a b x, l < n ∧ a ≤ b ∧ b ≤ u ∧ M 133 l = nI (cMi (C 17) a) ∧ M 134 l = nI (cMi (C 17) b) ∧ cTyp (C 17) (b - a) a [] = some [false] ∧ cExs (C 40) (C 17) (b - a) a [] = [x] ∧ U = (1, x, mU C 41 h) ∧ W = .inl (nI l, mU M 143 h')) := by
        intro h1 h2 eC eM
        obtain ⟨x, ex, ⟨h3, r1⟩, _⟩ := run_both (C := mU C 41 h1) (M := M) hab (by omega : b ≤ u) hu hmu e3 t1 hc hv
        refine ⟨(1, x, mU C 41 h3), .inl (nI k, mU M 143 h2), fun f hf => ?_, fun g _ => eM g, h3, h2, .inr ⟨k, a, b, x, hk, hab, by omega, f1, f2, t1, ex, rfl, rfl⟩⟩
        obtain ⟨f, rfl⟩ : ∃ q, f = q + 1 := ⟨f - 1, by omega⟩
        rw [eC, Option.bind_some]
        simp only [if_neg one_n0, g1, Option.bind_some, r1, mU_mU, told]
      by_cases z : C 16 (9 * k) = w
      · by_cases bd : b = d
        · refine .inl (got h h' (fun f => ?_) (fun f => ?_))
          · rw [lC, if_pos z, bd, if_pos rfl]
            rfl
          · rw [lM, if_pos z, bd, if_pos rfl]
        · obtain ⟨y, ey, ⟨h1, r1⟩, _⟩ := run_both (C := mU C 41 h) (M := M) hbd hdu hu hmu e3 (t2.resolve_left bd) hc hv
          obtain ⟨y', ey', _, ⟨h2, r2⟩⟩ := run_both (C := C) (M := mU M 143 h') hbd hdu hu hmu e3 (t2.resolve_left bd) hc hv
          have : y' = y := by
            have q : cExs (C 40) (C 17) (d - b) b [] = [y] := ey
            rw [ey'] at q
            exact (List.cons.inj q).1
          subst this
          have r1' : r5_run (mU C 41 h) (nI b) (nI d) = some (y', mU C 41 h1) := by rw [r1, mU_mU]
          have r2' : r10_runs (mU M 143 h') 0 (nI (cMi (C 17) b)) (nI (cMi (C 17) d)) = some (y', mU M 143 h2) := by rw [r2, mU_mU]
          have n1 : ¬ nI b = nI d := fun q => bd ((nI_eq (by omega) (by omega)).mp q)
          have n2 : ¬ nI (cMi (C 17) b) = nI (cMi (C 17) d) := fun q => by
            have q2 := (nI_eq (by omega) (by omega)).mp q
            have q3 : cMi (C 17) b < cMi (C 17) d := cMi_lt (by omega)
            omega
          by_cases y0 : y' = 0
          · refine .inr ⟨(0, 0, mU C 41 h1), mU M 143 h2, fun f _ => ?_, fun f _ => ?_, h1, h2, rfl, rfl⟩
            · show l5_ask_42 s w (f + 1) 0 0 (nI k) (mU C 41 h) = l5_ask_42 s w f 0 0 (nI (k + 1)) (mU C 41 h1)
              rw [lC, if_pos z, if_neg n1, r1', Option.bind_some, if_pos y0, Option.bind_some]
              simp only [reduceIte, Option.bind_some]
            · show l10_lineOf_2 w (f + 1) (nI k) (mU M 143 h') = l10_lineOf_2 w f (nI (k + 1)) (mU M 143 h2)
              rw [lM, if_pos z, if_neg n2, r2', Option.bind_some, if_pos y0]
          · refine .inl (got h1 h2 (fun f => ?_) (fun f => ?_))
            · rw [lC, if_pos z, if_neg n1, r1', Option.bind_some, if_neg y0]
              rfl
            · rw [lM, if_pos z, if_neg n2, r2', Option.bind_some, if_neg y0]
      · refine .inr ⟨(0, 0, mU C 41 h), mU M 143 h', fun f _ => ?_, fun f _ => ?_, h, h', rfl, rfl⟩
        · show l5_ask_42 s w (f + 1) 0 0 (nI k) (mU C 41 h) = l5_ask_42 s w f 0 0 (nI (k + 1)) (mU C 41 h)
          rw [lC, if_neg z, Option.bind_some]
        · show l10_lineOf_2 w (f + 1) (nI k) (mU M 143 h') = l10_lineOf_2 w f (nI (k + 1)) (mU M 143 h')
          rw [lM, if_neg z]) n 0 FU FU (0, 0, C) M (by omega) (FU_lt (by omega)) (FU_lt (by omega)) ⟨C 41, M 143, by rw [mU_self], by rw [mU_self]⟩
  have q1' : l5_ask_42 s w FU 0 0 0 C = some U := q1
  have q2' : l10_lineOf_2 w FU 0 M = some W := q2
  obtain ⟨h, h', ⟨a, rfl, rfl⟩ | ⟨l, a, b, x, hl, hab, hbu, f1, f2, t1, ex, rfl, rfl⟩⟩ := q3
  · refine ⟨0, a, h, h', q1', ?_⟩
    unfold r10_lawTells r10_lineOf
    rw [q2', Option.bind_some]
    simp only [Option.bind_some, reduceIte]
  · obtain ⟨x', ex', _, ⟨h2, r2⟩⟩ := run_both (C := C) (M := mU M 143 h') hab hbu hu hmu e3 t1 hc hv
    have : x' = x := by rw [ex'] at ex; exact (List.cons.inj ex).1
    subst this
    refine ⟨1, x', h, h2, q1', ?_⟩
    unfold r10_lawTells r10_lineOf
    rw [q2', Option.bind_some]
    simp only [Option.bind_some, if_neg (nI_m1 (show l < 2 ^ 31 by omega)), mLd_n (show l < 48 by omega) (show 48 < 2 ^ 31 by decide)]
    rw [show (mU M 143 h') 133 l = _ from f1, show (mU M 143 h') 134 l = _ from f2, r2, Option.bind_some, Option.bind_some, if_neg one_n0, mU_mU]

/-! THE LAW'S CODE RUN ON BOTH SIDES -/
def Stk (h : Nat → Int32) : List Int32 → Prop
  | [] => True
  | x :: T => h T.length = x ∧ Stk h T
def Tyd : List Bool → List Int32 → Prop
  | [], [] => True
  | b :: B, x :: T => (b = true → x = 0 ∨ x = 1) ∧ Tyd B T
  | _, _ => False
theorem Tyd_len : ∀ {B : List Bool} {L : List Int32}, Tyd B L → L.length = B.length
  | [], [], _ => rfl
  | b :: B, x :: T, h => by rw [List.length_cons, List.length_cons, Tyd_len h.2]
  | [], _ :: _, h => h.elim
  | _ :: _, [], h => h.elim
theorem Stk_up {h : Nat → Int32} {k : Nat} {x : Int32} : ∀ {L : List Int32}, L.length ≤ k → Stk h L → Stk (mU h k x) L
  | [], _, _ => trivial
  | y :: T, hk, hs => ⟨by rw [mU_ne _ _ (by rw [List.length_cons] at hk; omega)]; exact hs.1, Stk_up (by rw [List.length_cons] at hk; omega) hs.2⟩
theorem Stk_push {h : Nat → Int32} {x : Int32} {L : List Int32} (hs : Stk h L) : Stk (mU h L.length x) (x :: L) := ⟨mU_eq _ _ _, Stk_up (Nat.le_refl _) hs⟩
def cEx (V : Nat → Int32) (w : Int32) (L : List Int32) : List Int32 :=
  if w &&& 15 = 0 then (w >>> (4 &&& 31)) :: L
  else if w &&& 15 = 1 then V (w >>> (4 &&& 31)).toNatClampNeg :: L
  else if w &&& 15 = 5 then (match L with | x :: T => x / (w >>> (4 &&& 31)) :: T | _ => [])
  else if w &&& 15 = 9 then (match L with | x :: T => (1 - x) :: T | _ => [])
  else (match L with | y :: x :: T => r5_join (w &&& 15) x y :: T | _ => [])
def cExs (V code : Nat → Int32) : Nat → Nat → List Int32 → List Int32
  | 0, _, L => L
  | n + 1, i, L => cExs V code n (i + 1) (cEx V (code i) L)
theorem m1a (k : Nat) : nI (k + 1) + -1 = nI k := by
  rw [← Int32.sub_eq_add_neg, nI_pred]
theorem mU_mW (I : mI) (a i : Nat) (x : Int32) (h : Nat → Int32) : mU (mW I a i x) a h = mU I a h := by
  funext c
  unfold mW mU
  by_cases e : c = a
  · rw [if_pos e, if_pos e]
  · rw [if_neg e, if_neg e, if_neg e]
theorem join_b (o x y : Int32) (h : o = 6 ∨ o = 7 ∨ o = 8) : r5_join o x y = 0 ∨ r5_join o x y = 1 := by
  unfold r5_join
  rcases h with rfl | rfl | rfl
  · simp (decide := true) only [reduceIte]; split <;> simp
  · simp (decide := true) only [reduceIte]; split <;> simp
  · simp (decide := true) only [reduceIte]; split <;> simp
theorem join_ao (o x y : Int32) (h : o = 10 ∨ o = 11) (hx : x = 0 ∨ x = 1) (hy : y = 0 ∨ y = 1) : r5_join o x y = 0 ∨ r5_join o x y = 1 := by
  rcases h with rfl | rfl <;> rcases hx with rfl | rfl <;> rcases hy with rfl | rfl <;> decide
/-- how a word of the law's code can look, where it is well made -/
theorem cTy_cases {w : Int32} {B B1 : List Bool} (h : cTy w B = some B1) {V : Nat → Int32} {L : List Int32} (hT : Tyd B L) (hL : L.length ≤ 31) :
    (w &&& 15 = 0 ∧ L.length < 31 ∧ cEx V w L = (w >>> (4 &&& 31)) :: L ∧ Tyd B1 (cEx V w L)) ∨
    (w &&& 15 = 1 ∧ L.length < 31 ∧ (∃ k, k < 12 ∧ w >>> (4 &&& 31) = nI k ∧ cEx V w L = V k :: L) ∧ Tyd B1 (cEx V w L)) ∨
    (w &&& 15 = 5 ∧ ¬ (w >>> (4 &&& 31)) = 0 ∧ (∃ x T, L = x :: T ∧ cEx V w L = x / (w >>> (4 &&& 31)) :: T) ∧ Tyd B1 (cEx V w L)) ∨
    (w &&& 15 = 9 ∧ (∃ x T, L = x :: T ∧ cEx V w L = (1 - x) :: T) ∧ Tyd B1 (cEx V w L)) ∨
    (((w &&& 15 = 2 ∨ w &&& 15 = 3 ∨ w &&& 15 = 4 ∨ w &&& 15 = 6 ∨ w &&& 15 = 7 ∨ w &&& 15 = 8) ∨ (w &&& 15 = 10 ∨ w &&& 15 = 11)) ∧ (∃ y x T, L = y :: x :: T ∧ cEx V w L = r5_join (w &&& 15) x y :: T ∧ (w &&& 15 = 10 ∨ w &&& 15 = 11 → (x = 0 ∨ x = 1) ∧ (y = 0 ∨ y = 1))) ∧ Tyd B1 (cEx V w L)) := by
  have hl := Tyd_len hT
  unfold cTy at h
  by_cases c0 : w &&& 15 = 0
  · rw [if_pos c0] at h
    have e : cEx V w L = (w >>> (4 &&& 31)) :: L := by unfold cEx; rw [if_pos c0]
    by_cases d : B.length < 31
    · rw [if_pos d] at h
      cases h
      exact .inl ⟨c0, by omega, e, by rw [e]; exact ⟨(fun q => by cases q), hT⟩⟩
    · rw [if_neg d] at h; cases h
  rw [if_neg c0] at h
  by_cases c1 : w &&& 15 = 1
  · rw [if_pos c1] at h
    by_cases d : B.length < 31 ∧ ¬ (w >>> (4 &&& 31)) < 0 ∧ ¬ ((12 : Int32) ≤ w >>> (4 &&& 31))
    · rw [if_pos d] at h
      cases h
      obtain ⟨k, hk, ek⟩ := ix_of (n := 12) d.2.1 d.2.2 (by decide)
      have e : cEx V w L = V k :: L := by unfold cEx; rw [if_neg c0, if_pos c1, ek, nI_clamp (by omega)]
      exact .inr (.inl ⟨c1, by omega, ⟨k, hk, ek, e⟩, by rw [e]; exact ⟨(fun q => by cases q), hT⟩⟩)
    · rw [if_neg d] at h; cases h
  rw [if_neg c1] at h
  by_cases c5 : w &&& 15 = 5
  · rw [if_pos c5] at h
    match B, L, hT with
    | b :: B, x :: T, hT =>
      simp only at h
      by_cases d : w >>> (4 &&& 31) = 0
      · rw [if_pos d] at h; cases h
      · rw [if_neg d] at h
        cases h
        have e : cEx V w (x :: T) = x / (w >>> (4 &&& 31)) :: T := by unfold cEx; rw [if_neg c0, if_neg c1, if_pos c5]
        exact .inr (.inr (.inl ⟨c5, d, ⟨x, T, rfl, e⟩, by rw [e]; exact ⟨(fun q => by cases q), hT.2⟩⟩))
    | [], [], _ => cases h
  rw [if_neg c5] at h
  by_cases c9 : w &&& 15 = 9
  · rw [if_pos c9] at h
    match B, L, hT with
    | true :: B, x :: T, hT =>
      simp only at h
      cases h
      have e : cEx V w (x :: T) = (1 - x) :: T := by unfold cEx; rw [if_neg c0, if_neg c1, if_neg c5, if_pos c9]
      refine .inr (.inr (.inr (.inl ⟨c9, ⟨x, T, rfl, e⟩, ?_⟩)))
      rw [e]
      refine ⟨fun _ => ?_, hT.2⟩
      rcases hT.1 rfl with q | q
      · right; rw [q]; rfl
      · left; rw [q]; rfl
    | false :: B, x :: T, hT => cases h
    | [], [], _ => cases h
  rw [if_neg c9] at h
  have e5 : ∀ y x T, cEx V w (y :: x :: T) = r5_join (w &&& 15) x y :: T := by
    intro y x T
    unfold cEx; rw [if_neg c0, if_neg c1, if_neg c5, if_neg c9]
  by_cases ca : w &&& 15 = 2 ∨ w &&& 15 = 3 ∨ w &&& 15 = 4
  · rw [if_pos ca] at h
    match B, L, hT with
    | a :: b :: B, y :: x :: T, hT =>
      simp only at h
      cases h
      refine .inr (.inr (.inr (.inr ⟨.inl (by rcases ca with q | q | q <;> simp [q]), ⟨y, x, T, rfl, e5 y x T, fun q => ?_⟩, ?_⟩)))
      · exfalso
        rcases ca with q1 | q1 | q1 <;> rw [q1] at q <;> revert q <;> decide
      · rw [e5]; exact ⟨(fun q => by cases q), hT.2.2⟩
    | [a], [x], _ => cases h
    | [], [], _ => cases h
  rw [if_neg ca] at h
  by_cases cb : w &&& 15 = 6 ∨ w &&& 15 = 7 ∨ w &&& 15 = 8
  · rw [if_pos cb] at h
    match B, L, hT with
    | a :: b :: B, y :: x :: T, hT =>
      simp only at h
      cases h
      refine .inr (.inr (.inr (.inr ⟨.inl (by rcases cb with q | q | q <;> simp [q]), ⟨y, x, T, rfl, e5 y x T, fun q => ?_⟩, ?_⟩)))
      · exfalso
        rcases cb with q1 | q1 | q1 <;> rw [q1] at q <;> revert q <;> decide
      · rw [e5]; exact ⟨fun _ => join_b _ _ _ cb, hT.2.2⟩
    | [a], [x], _ => cases h
    | [], [], _ => cases h
  rw [if_neg cb] at h
  by_cases cc : w &&& 15 = 10 ∨ w &&& 15 = 11
  · rw [if_pos cc] at h
    match B, L, hT with
    | true :: true :: B, y :: x :: T, hT =>
      simp only at h
      cases h
      refine .inr (.inr (.inr (.inr ⟨.inr cc, ⟨y, x, T, rfl, e5 y x T, fun q => ⟨hT.2.1 rfl, hT.1 rfl⟩⟩, ?_⟩)))
      rw [e5]; exact ⟨fun _ => join_ao _ _ _ cc (hT.2.1 rfl) (hT.1 rfl), hT.2.2⟩
    | false :: b :: B, y :: x :: T, hT => cases h
    | true :: false :: B, y :: x :: T, hT => cases h
    | [true], [x], _ => cases h
    | [false], [x], _ => cases h
    | [], [], _ => cases h
  rw [if_neg cc] at h
  cases h
theorem n_lt1 : ¬ ((1 : Int32) < 0) := by decide
/-- a step of the class's run -/
theorem run_cs {I : mI} {f i e u : Nat} {L : List Int32} {B B1 : List Bool} (hw : cTy (I 17 i) B = some B1) (hT : Tyd B L) (hS : Stk (I 41) L) (hL : L.length ≤ 31) (hie : i < e) (he : e ≤ u) (hu : u ≤ 400) (h3 : I 15 3 = nI u) :
    ∃ k x, l5_run_18 (nI e) (f + 1) (nI L.length - 1) (nI i) I = l5_run_18 (nI e) f (nI (cEx (I 40) (I 17 i) L).length - 1) (nI (i + 1)) (mW I 41 k x) ∧ Stk (mU (I 41) k x) (cEx (I 40) (I 17 i) L) ∧ Tyd B1 (cEx (I 40) (I 17 i) L) ∧ (cEx (I 40) (I 17 i) L).length ≤ 31 := by
  rw [l5_run_18, if_neg (nI_ge hie (by omega)), h3, if_neg (nI_ge (by omega) (by omega)), mLd_n (show i < 400 by omega) (by decide), Option.bind_some, Option.bind_some, nI_1 i]
  generalize hW : I 17 i = w at hw ⊢
  rcases cTy_cases hw (V := I 40) hT hL with ⟨o, hl, e1, ht⟩ | ⟨o, hl, ⟨k, hk, ek, e1⟩, ht⟩ | ⟨o, hz, ⟨x, T, rfl, e1⟩, ht⟩ | ⟨o, ⟨x, T, rfl, e1⟩, ht⟩ | ⟨o, ⟨y, x, T, rfl, e1, _⟩, ht⟩
  · refine ⟨L.length, w >>> (4 &&& 31), ?_, by rw [e1]; exact Stk_push hS, ht, by rw [e1, List.length_cons]; omega⟩
    rw [e1, List.length_cons, nI_pred, Int32.sub_add_cancel, o]
    simp only [if_neg n_lt1, if_pos (show nI L.length < (32 : Int32) from nI_lt (b := 32) (by omega) (by decide)), reduceIte, Option.bind_some, mSto_n (show L.length < 32 by omega) (show 32 < 2 ^ 31 by decide)]
  · refine ⟨L.length, I 40 k, ?_, by rw [e1]; exact Stk_push hS, ht, by rw [e1, List.length_cons]; omega⟩
    rw [e1, List.length_cons, nI_pred, Int32.sub_add_cancel, o, ek]
    simp only [if_neg (show ¬ ((1 : Int32) < 1) by decide), if_pos (show nI L.length < (32 : Int32) from nI_lt (b := 32) (by omega) (by decide)), if_neg one_n0, if_neg (show ¬ ((12 : Int32) ≤ nI k) from nI_ge (b := 12) hk (by decide)), mLd_n hk (show 12 < 2 ^ 31 by decide), Option.bind_some, mSto_n (show L.length < 32 by omega) (show 32 < 2 ^ 31 by decide)]
  · rw [List.length_cons] at hL
    refine ⟨T.length, x / (w >>> (4 &&& 31)), ?_, by rw [e1]; exact ⟨mU_eq _ _ _, Stk_up (Nat.le_refl _) hS.2⟩, ht, by rw [e1, List.length_cons]; omega⟩
    rw [e1, List.length_cons, List.length_cons, nI_pred, o]
    have hd : mDivO x (w >>> (4 &&& 31)) = some (x / (w >>> (4 &&& 31))) := if_neg hz
    have hx : I 41 T.length = x := hS.1
    simp only [if_pos (show (1 : Int32) < 5 by decide), reduceIte, if_pos (show (0 : Int32) ≤ nI T.length from nI_le (a := 0) (Nat.zero_le _) (by omega)), if_neg (show ¬ ((5 : Int32) = 9) by decide), if_neg hz, mLd_n (show T.length < 32 by omega) (show 32 < 2 ^ 31 by decide), hx, hd, Option.bind_some, mSto_n (show T.length < 32 by omega) (show 32 < 2 ^ 31 by decide)]
  · rw [List.length_cons] at hL
    refine ⟨T.length, 1 - x, ?_, by rw [e1]; exact ⟨mU_eq _ _ _, Stk_up (Nat.le_refl _) hS.2⟩, ht, by rw [e1, List.length_cons]; omega⟩
    rw [e1, List.length_cons, List.length_cons, nI_pred, o]
    have hx : I 41 T.length = x := hS.1
    simp only [if_pos (show (1 : Int32) < 9 by decide), if_neg (show ¬ ((9 : Int32) = 5) by decide), reduceIte, if_pos (show (0 : Int32) ≤ nI T.length from nI_le (a := 0) (Nat.zero_le _) (by omega)), mLd_n (show T.length < 32 by omega) (show 32 < 2 ^ 31 by decide), hx, Option.bind_some, mSto_n (show T.length < 32 by omega) (show 32 < 2 ^ 31 by decide)]
  · rw [List.length_cons, List.length_cons] at hL
    refine ⟨T.length, r5_join (w &&& 15) x y, ?_, by rw [e1]; exact ⟨mU_eq _ _ _, Stk_up (Nat.le_refl _) hS.2.2⟩, ht, by rw [e1, List.length_cons]; omega⟩
    rw [e1, List.length_cons, List.length_cons, List.length_cons, nI_pred, nI_pred, m1a, nI_1 T.length]
    have hy : I 41 (T.length + 1) = y := hS.1
    have hx : I 41 T.length = x := hS.2.1
    have q1 : (1 : Int32) < w &&& 15 := by rcases o with (q | q | q | q | q | q) | (q | q) <;> rw [q] <;> decide
    have q5 : ¬ (w &&& 15 = 5) := by rcases o with (q | q | q | q | q | q) | (q | q) <;> rw [q] <;> decide
    have q9 : ¬ (w &&& 15 = 9) := by rcases o with (q | q | q | q | q | q) | (q | q) <;> rw [q] <;> decide
    simp only [if_pos q1, if_neg q5, if_neg q9, if_pos (show (1 : Int32) ≤ nI (T.length + 1) from nI_le (a := 1) (by omega) (by omega)), mLd_n (show T.length < 32 by omega) (show 32 < 2 ^ 31 by decide), mLd_n (show T.length + 1 < 32 by omega) (show 32 < 2 ^ 31 by decide), hx, hy, Option.bind_some, mSto_n (show T.length < 32 by omega) (show 32 < 2 ^ 31 by decide)]
theorem run_c : ∀ (n i f e u : Nat) (L : List Int32) (B B' : List Bool) (I : mI), cTyp (I 17) n i B = some B' → Tyd B L → Stk (I 41) L → L.length ≤ 31 → i + n = e → e ≤ u → u ≤ 400 → I 15 3 = nI u → n < f → ∃ h, l5_run_18 (nI e) f (nI L.length - 1) (nI i) I = some (.inr (nI (cExs (I 40) (I 17) n i L).length - 1, mU I 41 h)) ∧ Stk h (cExs (I 40) (I 17) n i L) ∧ Tyd B' (cExs (I 40) (I 17) n i L) := by
  intro n
  induction n with
  | zero =>
    intro i f e u L B B' I ht hT hS hL hie he hu h3 hf
    obtain ⟨f, rfl⟩ : ∃ q, f = q + 1 := ⟨f - 1, by omega⟩
    cases ht
    refine ⟨I 41, ?_, hS, hT⟩
    rw [l5_run_18, if_pos (nI_le (by omega) (by omega)), mU_self]
    rfl
  | succ n ih =>
    intro i f e u L B B' I ht hT hS hL hie he hu h3 hf
    obtain ⟨f, rfl⟩ : ∃ q, f = q + 1 := ⟨f - 1, by omega⟩
    rw [cTyp] at ht
    obtain ⟨B1, hw, ht⟩ := mBind ht
    obtain ⟨k, x, e1, hS1, hT1, hL1⟩ := run_cs (f := f) (e := e) (u := u) hw hT hS hL (by omega) he hu h3
    obtain ⟨h, q1, q2, q3⟩ := ih (i + 1) f e u _ B1 B' (mW I 41 k x) ht hT1 (by rw [mW_row]; exact hS1) hL1 (by omega) he hu h3 (by omega)
    refine ⟨h, ?_, q2, q3⟩
    rw [e1, q1, mU_mW]
    rfl

/-! THE RELATION between the class's cells and the reference's -/
def eqOn (n : Nat) (f g : Nat → Int32) : Prop := ∀ k, k < n → f k = g k
def bd (x : Int32) (n : Nat) : Prop := ∃ k, k ≤ n ∧ x = nI k
/-- a stage (fields, played, wept, tears, flat) and a row of 47 numbers -/
def RelS (f p w t l N : Nat → Int32) : Prop := (f 4 = N 3 ∧ f 5 = N 4 ∧ f 6 = N 5 + 10 ∧ f 7 = N 6 ∧ f 8 = N 7 ∧ f 9 = N 8 ∧ f 10 = N 0 ∧ f 11 = N 1 ∧ f 12 = N 2) ∧ (∀ k, k < 8 → l k = N (9 + k)) ∧ (∀ k, k < 12 → p k = N (17 + k)) ∧ (∀ k, k < 12 → w k = N (29 + k)) ∧ (∀ k, k < 6 → t k = N (41 + k))
def WfS (N : Nat → Int32) (np nq : Int32) : Prop := bd (N 2) 150 ∧ (∀ k, k < 8 → bd (N (9 + k)) 50) ∧ (∀ k, k < 12 → np ≤ nI k → N (17 + k) = 0 ∧ N (29 + k) = 0) ∧ (∀ k, k < 6 → nq ≤ nI k → N (41 + k) = 0)
/-- the cast -/
def RelC (f r9 r10 r11 r12 r13 : Nat → Int32) (np nq : Int32) (g123 g124 g125 g126 g127 : Nat → Int32) : Prop := f 6 = np ∧ f 7 = nq ∧ eqOn 12 r9 g123 ∧ eqOn 12 r10 g124 ∧ eqOn 12 r11 g125 ∧ eqOn 6 r12 g126 ∧ eqOn 6 r13 g127
def WfC (np nq : Int32) (g123 g124 g125 g126 g127 : Nat → Int32) : Prop := bd np 12 ∧ bd nq 6 ∧ (∀ k, k < 12 → bd (g123 k) 30) ∧ (∀ k, k < 12 → bd (g124 k) 9) ∧ (∀ k, k < 12 → bd (g125 k) 9) ∧ (∀ k, k < 6 → bd (g126 k) 9) ∧ (∀ k, k < 6 → bd (g127 k) 9)
/-- the programme -/
def RelP (f c : Nat → Int32) (m np nq : Int32) (g : Nat → Int32) : Prop := ∃ n, n ≤ 16 ∧ m = nI n ∧ f 2 = nI n ∧ ∀ l, l < n → c (9 * l) = g (9 * l) ∧ (∃ p, p < 6 ∧ nI p < nq ∧ c (9 * l + 1) = nI p ∧ g (9 * l + 1) = nI p) ∧ ∃ q, 1 ≤ q ∧ q ≤ 6 ∧ c (9 * l + 2) = nI q ∧ g (9 * l + 2) = nI q ∧ ∀ j, j < q → ∃ p, p < 12 ∧ nI p < np ∧ c (9 * l + 3 + j) = nI p ∧ g (9 * l + 3 + j) = nI p
/-- the care -/
def RelK (f c : Nat → Int32) (m : Int32) (g : Nat → Int32) : Prop := ∃ n, n ≤ 16 ∧ m = nI n ∧ f 2 = nI n ∧ ∀ l, l < n → c (9 * l) = g (3 * l) ∧ ((c (9 * l + 1) = 23 ∧ g (3 * l + 1) = 1) ∨ (c (9 * l + 2) = g (3 * l + 2) ∧ ((c (9 * l + 1) = 22 ∧ g (3 * l + 1) = 0 ∧ bd (g (3 * l + 2)) 7) ∨ (c (9 * l + 1) = 24 ∧ g (3 * l + 1) = 2) ∨ (c (9 * l + 1) = 15 ∧ g (3 * l + 1) = 3) ∨ (c (9 * l + 1) = 25 ∧ g (3 * l + 1) = 4))))
/-- the likeness -/
def likeSet (c : Nat → Int32) (p : Int32) : Nat → Int32
  | 0 => 0
  | l + 1 => likeSet c p l ||| (if c (9 * l) = p then (1 : Int32) <<< (c (9 * l + 1) &&& 31) else if c (9 * l + 1) = p then (1 : Int32) <<< (c (9 * l) &&& 31) else 0)
def RelL (f c : Nat → Int32) (m np : Int32) (g : Nat → Int32) : Prop := ∃ n, n ≤ 16 ∧ m = nI n ∧ f 2 = nI n ∧ (∀ l, l < n → ∃ a b, a < 12 ∧ b < 12 ∧ a ≠ b ∧ nI a < np ∧ nI b < np ∧ c (9 * l) = nI a ∧ c (9 * l + 1) = nI b) ∧ ∀ p, p < 12 → g p = likeSet c (nI p) n
/-- the law's code: the class's place and the reference's -/
def cMi (code : Nat → Int32) : Nat → Nat
  | 0 => 0
  | i + 1 => cMi code i + (if code i &&& 15 = 5 then 2 else 1)
def cTy (w : Int32) (L : List Bool) : Option (List Bool) :=
  if w &&& 15 = 0 then (if L.length < 31 then some (false :: L) else none)
  else if w &&& 15 = 1 then (if L.length < 31 ∧ ¬ (w >>> (4 &&& 31)) < 0 ∧ ¬ ((12 : Int32) ≤ w >>> (4 &&& 31)) then some (false :: L) else none)
  else if w &&& 15 = 5 then (match L with | _ :: T => if w >>> (4 &&& 31) = 0 then none else some (false :: T) | _ => none)
  else if w &&& 15 = 9 then (match L with | true :: T => some (true :: T) | _ => none)
  else if w &&& 15 = 2 ∨ w &&& 15 = 3 ∨ w &&& 15 = 4 then (match L with | _ :: _ :: T => some (false :: T) | _ => none)
  else if w &&& 15 = 6 ∨ w &&& 15 = 7 ∨ w &&& 15 = 8 then (match L with | _ :: _ :: T => some (true :: T) | _ => none)
  else if w &&& 15 = 10 ∨ w &&& 15 = 11 then (match L with | true :: true :: T => some (true :: T) | _ => none)
  else none
def cTyp (code : Nat → Int32) : Nat → Nat → List Bool → Option (List Bool)
  | 0, _, L => some L
  | n + 1, i, L => (cTy (code i) L).bind fun T => cTyp code n (i + 1) T
def cOne (code op ar : Nat → Int32) (i : Nat) : Prop := if code i &&& 15 = 5 then op (cMi code i) = 0 ∧ ar (cMi code i) = code i >>> (4 &&& 31) ∧ op (cMi code i + 1) = 5 else op (cMi code i) = code i &&& 15 ∧ ar (cMi code i) = code i >>> (4 &&& 31)
def RelLaw (f c code : Nat → Int32) (m : Int32) (wd fr wh to op ar : Nat → Int32) : Prop := ∃ n u, n ≤ 16 ∧ u ≤ 400 ∧ cMi code u ≤ 400 ∧ m = nI n ∧ f 2 = nI n ∧ f 3 = nI u ∧ (∀ i, i < u → cOne code op ar i) ∧ ∀ l, l < n → ∃ a b d, a ≤ b ∧ b ≤ d ∧ d ≤ u ∧ c (9 * l) = wd l ∧ c (9 * l + 1) = nI a ∧ c (9 * l + 2) = nI b ∧ c (9 * l + 3) = nI d ∧ fr l = nI (cMi code a) ∧ wh l = nI (cMi code b) ∧ to l = nI (cMi code d) ∧ cTyp code (b - a) a [] = some [false] ∧ (b = d ∨ cTyp code (d - b) b [] = some [true])
/-- the desk -/
def RelD (f r28 r29 r30 r31 r32 : Nat → Int32) (nt nh : Int32) (g146 g149 g150 g151 g152 : Nat → Int32) : Prop := f 5 = nt ∧ f 6 = nh ∧ eqOn 16 r28 g146 ∧ (∀ k, k < 8 → r29 k = g149 k + 1) ∧ eqOn 9 r30 g150 ∧ (∀ k, k < 9 → r31 k = g150 k + g151 k) ∧ eqOn 9 r32 g152
def WfD (nt nh : Int32) (g146 g149 g150 g151 g152 : Nat → Int32) : Prop := bd nt 16 ∧ bd nh 9 ∧ (∀ k, k < 16 → bd (g146 k) 60) ∧ (∀ k, k < 8 → bd (g149 k) 98) ∧ (∀ k, k < 9 → bd (g150 k) 59) ∧ (∀ k, k < 9 → bd (g151 k) 30) ∧ (∀ k, k < 9 → bd (g152 k) 60)
/-- all of a world: c the class's cells, G the reference's -/
def RelW (c G : mI) : Prop := (RelS (c 3) (c 4) (c 5) (c 6) (c 7) (G 120) ∧ WfS (G 120) (G 119 6) (G 119 7)) ∧ (RelC (c 8) (c 9) (c 10) (c 11) (c 12) (c 13) (G 119 6) (G 119 7) (G 123) (G 124) (G 125) (G 126) (G 127) ∧ WfC (G 119 6) (G 119 7) (G 123) (G 124) (G 125) (G 126) (G 127)) ∧ RelP (c 18) (c 19) (G 119 37) (G 119 6) (G 119 7) (G 139) ∧ (RelK (c 21) (c 22) (G 119 39) (G 140) ∧ c 18 3 = 0 ∧ c 21 3 = 0 ∧ c 24 3 = 0) ∧ RelL (c 24) (c 25) (G 119 41) (G 119 6) (G 141) ∧ RelLaw (c 15) (c 16) (c 17) (G 131 0) (G 132) (G 133) (G 134) (G 135) (G 136) (G 137) ∧ (RelD (c 27) (c 28) (c 29) (c 30) (c 31) (c 32) (G 119 48) (G 119 53) (G 146) (G 149) (G 150) (G 151) (G 152) ∧ WfD (G 119 48) (G 119 53) (G 146) (G 149) (G 150) (G 151) (G 152)) ∧ eqOn 600 (c 34) (G 128)
/-- the reference's cells as an image holds them -/
def unf (V : Nat → Int32) : mI := fun a i => if a = 120 then V i else if a = 123 then V (54 + 4 * i) else if a = 124 then V (55 + 4 * i) else if a = 125 then V (56 + 4 * i) else if a = 141 then V (57 + 4 * i) else if a = 126 then V (102 + 2 * i) else if a = 127 then V (103 + 2 * i) else if a = 149 then V (114 + i) else if a = 146 then V (122 + i) else if a = 150 then V (138 + 3 * i) else if a = 151 then V (139 + 3 * i) else if a = 152 then V (140 + 3 * i) else if a = 139 then V (165 + i) else if a = 140 then V (309 + i) else if a = 128 then V (357 + i) else if a = 131 then V 957 else if a = 132 then V (958 + 4 * i) else if a = 133 then V (959 + 4 * i) else if a = 134 then V (960 + 4 * i) else if a = 135 then V (961 + 4 * i) else if a = 136 then V (1022 + 2 * i) else if a = 137 then V (1023 + 2 * i) else if i = 6 then V 47 else if i = 7 then V 48 else if i = 37 then V 49 else if i = 39 then V 50 else if i = 41 then V 51 else if i = 48 then V 52 else V 53
/-- what can be undone -/
def RelU (I : mI) : Prop := ∃ u f, u ≤ 6 ∧ f < 6 ∧ I 77 2 = nI u ∧ I 119 3 = nI u ∧ I 77 1 = nI f ∧ ∀ j, j < u → (RelS (I (79 + 5 * ((f + j) % 6))) (I (79 + 5 * ((f + j) % 6) + 1)) (I (79 + 5 * ((f + j) % 6) + 2)) (I (79 + 5 * ((f + j) % 6) + 3)) (I (79 + 5 * ((f + j) % 6) + 4)) (fun k => I 121 (47 * j + k)) ∧ WfS (fun k => I 121 (47 * j + k)) (I 119 6) (I 119 7))
def RelT (n1 n2 : Int32) (t1 t2 : Nat → Int32) : Prop := ∃ n, n ≤ 400 ∧ n1 = nI n ∧ n2 = nI n ∧ eqOn 400 t1 t2 ∧ ∀ k, k < 400 → bd (t2 k) 255
def RelI (x y : Int32) (c G : mI) : Prop := x = y ∧ (x = 0 ∨ (x = 1 ∧ RelW c G))
def mWords : List Int32 := [32, 119, 101, 101, 112, 115, 32, 100, 97, 109, 112, 115, 32, 115, 101, 116, 116, 108, 101, 115, 32, 119, 104, 101, 110, 32, 111, 114, 32, 97, 110, 100, 32, 110, 111, 116, 32, 115, 97, 100, 32, 104, 97, 114, 100, 32, 97, 114, 116, 32, 119, 105, 115, 104, 32, 119, 97, 116, 101, 114, 32, 115, 97, 108, 116, 32, 102, 108, 97, 116, 32, 115, 116, 114, 105, 110, 103, 32, 102, 105, 114, 101, 32, 109, 105, 110, 117, 116, 101, 32, 112, 108, 97, 121, 101, 100, 32, 100, 97, 121, 32, 111, 110, 32, 112, 108, 97, 121, 101, 114, 32, 112, 105, 101, 99, 101, 32, 116, 117, 110, 101, 32, 101, 109, 112, 116, 121, 32, 99, 104, 105, 108, 100, 32, 100, 114, 121, 32, 108, 105, 107, 101, 32]
def Inv (I : mI) (s : Nat) : Prop := RelW I I ∧ RelU I ∧ RelI (I 0 3) (I 119 59) (fun k => I (k + 42)) (unf (I 154)) ∧ RelT (I 109 1) (I 119 15) (I 110) (I 129) ∧ (I 109 11 = I 119 35 ∧ I 109 12 = I 119 36) ∧ (I 119 5 = 0 ∧ eqOn 143 (I 130) (fun k => mWords.getD k 0)) ∧ (s = 3 ∨ s = 35)
/-! small facts -/
theorem mW_ne (I : mI) {a b : Nat} (i : Nat) (x : Int32) (h : b ≠ a) : mW I a i x b = I b := if_neg h
theorem mW_row (I : mI) (a i : Nat) (x : Int32) : mW I a i x a = mU (I a) i x := if_pos rfl
theorem mW_at (I : mI) (a i : Nat) (x : Int32) : mW I a i x a i = x := by rw [mW_row, mU_eq]
theorem mW_off (I : mI) {a i j : Nat} (x : Int32) (h : j ≠ i) : mW I a i x a j = I a j := by rw [mW_row, mU_ne _ _ h]
theorem mLd_n {I : mI} {a N k : Nat} (h : k < N) (hN : N < 2 ^ 31) : mLd I a N (nI k) = some (I a k) := by
  unfold mLd
  rw [if_neg (nI_in h hN), nI_clamp (by omega)]
theorem mSto_n {I : mI} {a N k : Nat} {x : Int32} (h : k < N) (hN : N < 2 ^ 31) : mSto I a N (nI k) x = some (mW I a k x) := by
  unfold mSto
  rw [if_neg (nI_in h hN), nI_clamp (by omega)]
theorem nI_k (k : Nat) {c : Int32} (h : c = nI k) : nI k = c := h.symm
theorem eqOn_up {n : Nat} {f g : Nat → Int32} (h : eqOn n f g) (k : Nat) (x : Int32) : eqOn n (mU f k x) (mU g k x) := by
  intro j hj
  unfold mU
  by_cases e : j = k
  · rw [if_pos e, if_pos e]
  · rw [if_neg e, if_neg e]
    exact h j hj
theorem bd_mono {x : Int32} {n m : Nat} (h : bd x n) (hm : n ≤ m) : bd x m := by
  obtain ⟨k, hk, e⟩ := h
  exact ⟨k, by omega, e⟩
/-- an index within two bounds -/
theorem ix_of {x : Int32} {n : Nat} (h0 : ¬ x < 0) (h1 : ¬ nI n ≤ x) (hn : n < 2 ^ 31) : ∃ k, k < n ∧ x = nI k := by
  rcases pk_ix x hn with h | h | h
  · exact absurd h h0
  · exact absurd h h1
  · exact h
theorem i32_lt {x y : Int32} : x < y ↔ x.toInt < y.toInt := Int32.lt_iff_toInt_lt
theorem i32_le {x y : Int32} : x ≤ y ↔ x.toInt ≤ y.toInt := Int32.le_iff_toInt_le
theorem i32_eq {x y : Int32} : x = y ↔ x.toInt = y.toInt := Int32.toInt_inj.symm
theorem up_all {n : Nat} {P : Int32 → Prop} {f : Nat → Int32} (h : ∀ k, k < n → P (f k)) (j : Nat) {x : Int32} (hx : P x) : ∀ k, k < n → P (mU f j x k) := by
  intro k hk
  unfold mU
  by_cases e : k = j
  · rw [if_pos e]; exact hx
  · rw [if_neg e]; exact h k hk
theorem RelU_congr {I J : mI} (hr : ∀ a, 77 ≤ a → a < 109 → J a = I a) (h1 : J 121 = I 121) (h3 : J 119 3 = I 119 3) (h6 : J 119 6 = I 119 6) (h7 : J 119 7 = I 119 7) (h : RelU I) : RelU J := by
  obtain ⟨u, f, hu, hf, e1, e2, e3, hs⟩ := h
  refine ⟨u, f, hu, hf, ?_, by rw [h3, e2], ?_, fun j hj => ?_⟩
  · rw [hr 77 (by decide) (by decide), e1]
  · rw [hr 77 (by decide) (by decide), e3]
  · have hm : (f + j) % 6 < 6 := Nat.mod_lt _ (by decide)
    rw [hr _ (by omega) (by omega), hr (79 + 5 * ((f + j) % 6) + 1) (by omega) (by omega), hr (79 + 5 * ((f + j) % 6) + 2) (by omega) (by omega), hr (79 + 5 * ((f + j) % 6) + 3) (by omega) (by omega), hr (79 + 5 * ((f + j) % 6) + 4) (by omega) (by omega), h1, h6, h7]
    exact hs j hj
theorem RelU_zero {I : mI} {f : Nat} (hf : f < 6) (h1 : I 77 2 = 0) (h2 : I 119 3 = 0) (h3 : I 77 1 = nI f) : RelU I := ⟨0, f, by decide, hf, h1, h2, h3, fun j hj => absurd hj (Nat.not_lt_zero _)⟩
theorem RelU_first {I : mI} (h : RelU I) : ∃ f, f < 6 ∧ I 77 1 = nI f := by
  obtain ⟨u, f, hu, hf, e1, e2, e3, hs⟩ := h
  exact ⟨f, hf, e3⟩

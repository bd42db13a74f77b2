/-! FRAMES; WHAT THE LAW TELLS NOW: OF, DAMPS, SETTLES -/
theorem RelW_congr {c c' G G' : mI} (hc : ∀ a, ((3 ≤ a ∧ a ≤ 13) ∨ (15 ≤ a ∧ a ≤ 32) ∨ a = 34) → c' a = c a) (hG : ∀ a, (a = 120 ∨ (123 ≤ a ∧ a ≤ 137) ∨ (139 ≤ a ∧ a ≤ 141) ∨ a = 146 ∨ (149 ≤ a ∧ a ≤ 152)) → G' a = G a) (hf : ∀ k, (k = 6 ∨ k = 7 ∨ k = 37 ∨ k = 39 ∨ k = 41 ∨ k = 48 ∨ k = 53) → G' 119 k = G 119 k) (h : RelW c G) : RelW c' G' := by
  unfold RelW at *
  rw [hc 3 (by omega), hc 4 (by omega), hc 5 (by omega), hc 6 (by omega), hc 7 (by omega), hc 8 (by omega), hc 9 (by omega), hc 10 (by omega), hc 11 (by omega), hc 12 (by omega), hc 13 (by omega), hc 15 (by omega), hc 16 (by omega), hc 17 (by omega), hc 18 (by omega), hc 19 (by omega), hc 21 (by omega), hc 22 (by omega), hc 24 (by omega), hc 25 (by omega), hc 27 (by omega), hc 28 (by omega), hc 29 (by omega), hc 30 (by omega), hc 31 (by omega), hc 32 (by omega), hc 34 (by omega), hG 120 (by omega), hG 123 (by omega), hG 124 (by omega), hG 125 (by omega), hG 126 (by omega), hG 127 (by omega), hG 128 (by omega), hG 131 (by omega), hG 132 (by omega), hG 133 (by omega), hG 134 (by omega), hG 135 (by omega), hG 136 (by omega), hG 137 (by omega), hG 139 (by omega), hG 140 (by omega), hG 141 (by omega), hG 146 (by omega), hG 149 (by omega), hG 150 (by omega), hG 151 (by omega), hG 152 (by omega), hf 6 (by omega), hf 7 (by omega), hf 37 (by omega), hf 39 (by omega), hf 41 (by omega), hf 48 (by omega), hf 53 (by omega)]
  exact h
theorem Inv_frame {I J : mI} {s s' : Nat} (h : Inv I s) (hs' : s' = 3 ∨ s' = 35) (hr : ∀ a, (a = 0 ∨ (3 ≤ a ∧ a ≤ 13) ∨ (15 ≤ a ∧ a ≤ 32) ∨ a = 34 ∨ (44 ≤ a ∧ a ≤ 110) ∨ a = 120 ∨ a = 121 ∨ (123 ≤ a ∧ a ≤ 137) ∨ (139 ≤ a ∧ a ≤ 141) ∨ a = 146 ∨ (149 ≤ a ∧ a ≤ 152) ∨ a = 154) → J a = I a) (hf : ∀ k, (k = 3 ∨ k = 5 ∨ k = 6 ∨ k = 7 ∨ k = 15 ∨ k = 35 ∨ k = 36 ∨ k = 37 ∨ k = 39 ∨ k = 41 ∨ k = 48 ∨ k = 53 ∨ k = 59) → J 119 k = I 119 k) : Inv J s' := by
  obtain ⟨hW, hU, hI, hT, hF, hC, _⟩ := h
  refine ⟨RelW_congr (fun a ha => hr a (by omega)) (fun a ha => hr a (by omega)) (fun k hk => hf k (by omega)) hW, RelU_congr (fun a h1 h2 => hr a (by omega)) (hr 121 (by omega)) (hf 3 (by omega)) (hf 6 (by omega)) (hf 7 (by omega)) hU, ?_, ?_, ?_, ?_, hs'⟩
  · unfold RelI at *
    rw [hr 0 (by omega), hf 59 (by omega), hr 154 (by omega)]
    refine ⟨hI.1, ?_⟩
    rcases hI.2 with q | q
    · exact .inl q
    · exact .inr ⟨q.1, RelW_congr (c := fun k => I (k + 42)) (G := unf (I 154)) (fun a ha => hr (a + 42) (by omega)) (fun a ha => rfl) (fun k hk => rfl) q.2⟩
  · rw [hr 109 (by omega), hr 110 (by omega), hr 129 (by omega), hf 15 (by omega)]; exact hT
  · rw [hr 109 (by omega), hf 35 (by omega), hf 36 (by omega)]; exact hF
  · rw [hf 5 (by omega), hr 130 (by omega)]; exact hC
theorem mW_mU (I : mI) (a : Nat) (R : Nat → Int32) (k : Nat) (x : Int32) : mW (mU I a R) a k x = mU I a (mU R k x) := by
  unfold mW
  rw [mU_eq, mU_mU]
theorem mW_0 (I : mI) (a k : Nat) (x : Int32) : mW I a k x = mU I a (mU (I a) k x) := rfl
def rowA (M : mI) (p q : Nat) (fl st mi : Int32) : Nat → Int32 := mU (mU (mU (mU (mU (mU (mU (mU (mU (mU (mU (mU (M 142) 0 (M 124 q)) 1 (M 125 q)) 2 (M 126 p)) 3 (M 127 p)) 4 (M 120 3)) 5 (M 120 4)) 6 fl) 7 st) 8 (M 120 6)) 9 mi) 10 (M 120 (17 + q))) 11 (M 120 0)
theorem asks_e {M : mI} {p q : Nat} (hp : p < 6) (hq : q < 12) (mi : Int32) : r10_asks M (nI p) (nI q) (-1) mi = some (mU M 142 (rowA M p q 0 0 mi)) := by
  unfold r10_asks
  simp only [mLd_n hp (show 6 < 2 ^ 31 by decide), mLd_n hq (show 12 < 2 ^ 31 by decide), nI_addl (show (17 : Int32) = nI 17 by decide), mLd_n (show 17 + q < 47 by omega) (show 47 < 2 ^ 31 by decide), Option.bind_some, reduceIte, mW_0 M 142, mW_mU]
  rfl
theorem asks_s {M : mI} {p q st : Nat} (hp : p < 6) (hq : q < 12) (hs : st < 8) (mi : Int32) : r10_asks M (nI p) (nI q) (nI st) mi = some (mU M 142 (rowA M p q (M 120 (9 + st)) (nI st) mi)) := by
  unfold r10_asks
  simp only [mLd_n hp (show 6 < 2 ^ 31 by decide), mLd_n hq (show 12 < 2 ^ 31 by decide), nI_addl (show (17 : Int32) = nI 17 by decide), nI_addl (show (9 : Int32) = nI 9 by decide), mLd_n (show 17 + q < 47 by omega) (show 47 < 2 ^ 31 by decide), mLd_n (show 9 + st < 47 by omega) (show 47 < 2 ^ 31 by decide), Option.bind_some, if_neg (nI_m1 (show st < 2 ^ 31 by omega)), mW_0 M 142, mW_mU]
  rfl
def rowS (C : mI) (s p q : Nat) : Nat → Int32 := mU (mU (mU (mU (mU (mU (mU (mU (mU (mU (C 40) 0 (C 10 q)) 1 (C 11 q)) 2 (C 12 p)) 3 (C 13 p)) 6 0) 7 0) 8 (C s 7)) 9 0) 10 (C (s + 1) q)) 11 (C s 10)
theorem seat_e {C : mI} {s p q : Nat} (hs : s = 3 ∨ s = 35) (hp : p < 6) (hq : q < 12) : r5_seat C s (nI p) (nI q) = some (mU C 40 (rowS C s p q)) := by
  unfold r5_seat
  rcases hs with rfl | rfl
  · simp only [mLd_n hp (show 6 < 2 ^ 31 by decide), mLd_n hq (show 12 < 2 ^ 31 by decide), Option.bind_some, mW_0 C 40, mW_mU]
    rfl
  · simp only [mLd_n hp (show 6 < 2 ^ 31 by decide), mLd_n hq (show 12 < 2 ^ 31 by decide), Option.bind_some, mW_0 C 40, mW_mU]
    rfl
theorem held_mm {x m : Int32} (hm : 0 ≤ m.toInt) : r10_held x 0 m = mMax 0 (mMin m x) := by
  unfold r10_held mMax mMin
  by_cases a : (0 : Int32) ≤ x
  · rw [if_pos a]
    by_cases b : x ≤ m
    · rw [if_pos b]
      by_cases c : x < m
      · rw [if_pos c]
        by_cases d : (0 : Int32) < x
        · rw [if_pos d]
        · rw [if_neg d, i32_eq]
          rw [i32_le] at a; rw [i32_lt] at d; omega
      · rw [if_neg c]
        have e : x = m := by rw [i32_eq]; rw [i32_le] at b; rw [i32_lt] at c; omega
        subst e
        by_cases d : (0 : Int32) < x
        · rw [if_pos d]
        · rw [if_neg d, i32_eq]
          rw [i32_le] at a; rw [i32_lt] at d; omega
    · rw [if_neg b, if_neg (show ¬ x < m by rw [i32_le] at b; rw [i32_lt]; omega)]
      by_cases d : (0 : Int32) < m
      · rw [if_pos d]
      · rw [if_neg d, i32_eq]
        rw [i32_lt] at d; rw [show (0 : Int32).toInt = 0 by decide] at d ⊢; omega
  · rw [if_neg a, if_pos (show x < m by rw [i32_le, show (0 : Int32).toInt = 0 by decide] at a; rw [i32_lt]; omega), if_neg (show ¬ (0 : Int32) < x by rw [i32_le] at a; rw [i32_lt]; omega)]
theorem held_bd {x m : Int32} {n : Nat} (hm : m.toInt = n) : bd (r10_held x 0 m) n := by
  unfold r10_held
  by_cases a : (0 : Int32) ≤ x
  · rw [if_pos a]
    by_cases b : x ≤ m
    · rw [if_pos b]
      obtain ⟨j, hj, e⟩ := nI_of2 hm (i32_nlt.mpr a) b
      exact ⟨j, hj, e⟩
    · rw [if_neg b]
      obtain ⟨j, hj, e⟩ := nI_of2 (x := m) (M := m) hm (by rw [i32_lt, show (0 : Int32).toInt = 0 by decide]; omega) (by rw [i32_le]; omega)
      exact ⟨j, hj, e⟩
  · rw [if_neg a]; exact ⟨0, by omega, rfl⟩
def wOut (A : Nat → Int32) (w : Int32) : Int32 := if w = 0 then A 0 + A 2 - A 3 else if w = 1 then A 4 else 3 + A 8
def wMost (w : Int32) : Int32 := if w = 1 then 1000 else 99
theorem wOut0 (A : Nat → Int32) : wOut A 0 = A 0 + A 2 - A 3 := if_pos rfl
theorem wOut1 (A : Nat → Int32) : wOut A 1 = A 4 := by unfold wOut; rw [if_neg one_n0, if_pos rfl]
theorem wOut2 (A : Nat → Int32) : wOut A 2 = 3 + A 8 := by unfold wOut; rw [if_neg (by decide), if_neg (by decide)]
theorem wMost0 : wMost 0 = 99 := by decide
theorem wMost1 : wMost 1 = 1000 := by decide
theorem wMost2 : wMost 2 = 99 := by decide
theorem wMost_t (w : Int32) : ∃ n : Nat, n ≤ 1000 ∧ (wMost w).toInt = (n : Int) := by
  unfold wMost
  by_cases h : w = 1
  · rw [if_pos h]; exact ⟨1000, by omega, by decide⟩
  · rw [if_neg h]; exact ⟨99, by omega, by decide⟩
theorem ask_gen {C M : mI} {s : Nat} (hs : s = 3 ∨ s = 35) (w : Int32) (hl : RelLaw (C 15) (C 16) (C 17) (M 131 0) (M 132) (M 133) (M 134) (M 135) (M 136) (M 137)) (A : Nat → Int32) (hA : ∀ k, k < 12 → k ≠ 4 → k ≠ 5 → C 40 k = A k) (h4 : C s 4 = A 4) (h5 : C s 5 = A 5) : ∃ v h h', bd v 1000 ∧ (¬ w = 1 → bd v 99) ∧ r5_ask C s w = some (v, mU (mU C 40 (mU (mU (C 40) 4 (A 4)) 5 (A 5))) 41 h) ∧ r10_lawTells (mU M 142 A) w (wOut A w) (wMost w) = some (v, mU (mU M 142 A) 143 h') := by
  have e0 : mW (mW C 40 4 (C s 4)) 40 5 ((mW C 40 4 (C s 4)) s 5) = mU C 40 (mU (mU (C 40) 4 (A 4)) 5 (A 5)) := by
    rw [mW_ne _ _ _ (show s ≠ 40 by omega), h4, h5, mW_0 C 40, mW_mU]
  have hv : eqOn 12 ((mU C 40 (mU (mU (C 40) 4 (A 4)) 5 (A 5))) 40) ((mU M 142 A) 142) := by
    rw [mU_eq, mU_eq]
    intro k hk
    by_cases k5 : k = 5
    · rw [k5, mU_eq]
    · rw [mU_ne _ _ k5]
      by_cases k4 : k = 4
      · rw [k4, mU_eq]
      · rw [mU_ne _ _ k4]; exact hA k hk k4 k5
  obtain ⟨t, a, h, h', q1, q2⟩ := ask_e (C := mU C 40 (mU (mU (C 40) 4 (A 4)) 5 (A 5))) (M := mU M 142 A) s w (wOut A w) (wMost w) hl hv
  obtain ⟨n, hn, en⟩ := wMost_t w
  refine ⟨_, h, h', ?_, ?_, ?_, q2⟩
  · exact bd_mono (held_bd en) hn
  · intro h1
    have e : wMost w = 99 := if_neg h1
    rw [e]
    exact held_bd (by decide)
  · unfold r5_ask
    rw [e0, q1, Option.bind_some, ite_some, Option.bind_some, ite_some, Option.bind_some, held_mm (by omega)]
    have ew : r5_withoutLaw (mU (mU C 40 (mU (mU (C 40) 4 (A 4)) 5 (A 5))) 41 h) w = wOut A w := by
      unfold r5_withoutLaw wOut
      have a0 : (mU (mU C 40 (mU (mU (C 40) 4 (A 4)) 5 (A 5))) 41 h) 40 0 = A 0 := hA 0 (by decide) (by decide) (by decide)
      have a2 : (mU (mU C 40 (mU (mU (C 40) 4 (A 4)) 5 (A 5))) 41 h) 40 2 = A 2 := hA 2 (by decide) (by decide) (by decide)
      have a3 : (mU (mU C 40 (mU (mU (C 40) 4 (A 4)) 5 (A 5))) 41 h) 40 3 = A 3 := hA 3 (by decide) (by decide) (by decide)
      have a4 : (mU (mU C 40 (mU (mU (C 40) 4 (A 4)) 5 (A 5))) 41 h) 40 4 = A 4 := rfl
      have a8 : (mU (mU C 40 (mU (mU (C 40) 4 (A 4)) 5 (A 5))) 41 h) 40 8 = A 8 := hA 8 (by decide) (by decide) (by decide)
      rw [a0, a2, a3, a4, a8]
    rw [ew]
    rfl
/-- the values as they were set for a player and a piece -/
def VR (V : Nat → Int32) (M : mI) (p q : Nat) : Prop := V 0 = M 124 q ∧ V 1 = M 125 q ∧ V 2 = M 126 p ∧ V 3 = M 127 p ∧ V 6 = 0 ∧ V 7 = 0 ∧ V 8 = M 120 6 ∧ V 10 = M 120 (17 + q) ∧ V 11 = M 120 0
theorem k12 {P : Nat → Prop} (h0 : P 0) (h1 : P 1) (h2 : P 2) (h3 : P 3) (h6 : P 6) (h7 : P 7) (h8 : P 8) (h9 : P 9) (h10 : P 10) (h11 : P 11) : ∀ k, k < 12 → k ≠ 4 → k ≠ 5 → P k := by
  intro k hk a b
  have : k = 0 ∨ k = 1 ∨ k = 2 ∨ k = 3 ∨ k = 6 ∨ k = 7 ∨ k = 8 ∨ k = 9 ∨ k = 10 ∨ k = 11 := by omega
  rcases this with e | e | e | e | e | e | e | e | e | e <;> subst e <;> assumption
theorem weeps_e {C M : mI} {s p q : Nat} (hs : s = 3 ∨ s = 35) (hp : p < 6) (hq : q < 12) (hl : RelLaw (C 15) (C 16) (C 17) (M 131 0) (M 132) (M 133) (M 134) (M 135) (M 136) (M 137)) (h4 : C s 4 = M 120 3) (h5 : C s 5 = M 120 4) (hV : VR (C 40) M p q) : ∃ v h h' V A, bd v 99 ∧ r5_ask C s 0 = some (v, mU (mU C 40 V) 41 h) ∧ VR V M p q ∧ V 9 = C 40 9 ∧ r10_weepsOf M (nI p) (nI q) (C 40 9) = some (v, mU (mU M 142 A) 143 h') := by
  obtain ⟨v0, v1, v2, v3, v6, v7, v8, v10, v11⟩ := hV
  obtain ⟨v, h, h', b1, b2, q1, q2⟩ := ask_gen hs 0 hl (rowA M p q 0 0 (C 40 9)) (k12 v0 v1 v2 v3 v6 v7 v8 rfl v10 v11) h4 h5
  refine ⟨v, h, h', _, rowA M p q 0 0 (C 40 9), b2 (by decide), q1, ⟨v0, v1, v2, v3, v6, v7, v8, v10, v11⟩, rfl, ?_⟩
  unfold r10_weepsOf
  rw [asks_e hp hq, Option.bind_some, mLd_n hq (by decide), mLd_n hp (by decide), mLd_n hp (by decide), Option.bind_some, Option.bind_some, Option.bind_some]
  rw [wOut0, wMost0] at q2
  exact congrArg (fun z => Option.bind z fun (z4 : Int32 × mI) => some (z4.1, z4.2)) q2
theorem settles_e {C M : mI} {s p q : Nat} (hs : s = 3 ∨ s = 35) (hp : p < 6) (hq : q < 12) (hl : RelLaw (C 15) (C 16) (C 17) (M 131 0) (M 132) (M 133) (M 134) (M 135) (M 136) (M 137)) (h4 : C s 4 = M 120 3) (h5 : C s 5 = M 120 4) (hV : VR (C 40) M p q) : ∃ v h h' V A, bd v 99 ∧ r5_ask C s 2 = some (v, mU (mU C 40 V) 41 h) ∧ VR V M p q ∧ V 9 = C 40 9 ∧ r10_settlesOf M (nI p) (nI q) (C 40 9) = some (v, mU (mU M 142 A) 143 h') := by
  obtain ⟨v0, v1, v2, v3, v6, v7, v8, v10, v11⟩ := hV
  obtain ⟨v, h, h', b1, b2, q1, q2⟩ := ask_gen hs 2 hl (rowA M p q 0 0 (C 40 9)) (k12 v0 v1 v2 v3 v6 v7 v8 rfl v10 v11) h4 h5
  refine ⟨v, h, h', _, rowA M p q 0 0 (C 40 9), b2 (by decide), q1, ⟨v0, v1, v2, v3, v6, v7, v8, v10, v11⟩, rfl, ?_⟩
  unfold r10_settlesOf
  rw [asks_e hp hq, Option.bind_some]
  rw [wOut2, wMost2] at q2
  exact congrArg (fun z => Option.bind z fun (z4 : Int32 × mI) => some (z4.1, z4.2)) q2
/-- for a string: the values but 6 and 7 are as for none -/
def VRs (V : Nat → Int32) (M : mI) (p q st : Nat) : Prop := V 0 = M 124 q ∧ V 1 = M 125 q ∧ V 2 = M 126 p ∧ V 3 = M 127 p ∧ V 6 = M 120 (9 + st) ∧ V 7 = nI st ∧ V 8 = M 120 6 ∧ V 10 = M 120 (17 + q) ∧ V 11 = M 120 0
theorem damps_e {C M : mI} {s p q st : Nat} (hs : s = 3 ∨ s = 35) (hp : p < 6) (hq : q < 12) (hst : st < 8) (hl : RelLaw (C 15) (C 16) (C 17) (M 131 0) (M 132) (M 133) (M 134) (M 135) (M 136) (M 137)) (h4 : C s 4 = M 120 3) (h5 : C s 5 = M 120 4) (hV : VRs (C 40) M p q st) : ∃ v h h' V A, bd v 1000 ∧ r5_ask C s 1 = some (v, mU (mU C 40 V) 41 h) ∧ VRs V M p q st ∧ V 9 = C 40 9 ∧ r10_dampsOf M (nI p) (nI q) (nI st) (C 40 9) = some (v, mU (mU M 142 A) 143 h') := by
  obtain ⟨v0, v1, v2, v3, v6, v7, v8, v10, v11⟩ := hV
  obtain ⟨v, h, h', b1, b2, q1, q2⟩ := ask_gen hs 1 hl (rowA M p q (M 120 (9 + st)) (nI st) (C 40 9)) (k12 v0 v1 v2 v3 v6 v7 v8 rfl v10 v11) h4 h5
  refine ⟨v, h, h', _, rowA M p q (M 120 (9 + st)) (nI st) (C 40 9), b1, q1, ⟨v0, v1, v2, v3, v6, v7, v8, v10, v11⟩, rfl, ?_⟩
  unfold r10_dampsOf
  rw [asks_s hp hq hst, Option.bind_some]
  rw [wOut1, wMost1] at q2
  exact congrArg (fun z => Option.bind z fun (z4 : Int32 × mI) => some (z4.1, z4.2)) q2
theorem seat_VR {C M : mI} {s p q : Nat} (hp : p < 6) (hq : q < 12) (hS : RelS (C s) (C (s + 1)) (C (s + 2)) (C (s + 3)) (C (s + 4)) (M 120)) (h10 : eqOn 12 (C 10) (M 124)) (h11 : eqOn 12 (C 11) (M 125)) (h12 : eqOn 6 (C 12) (M 126)) (h13 : eqOn 6 (C 13) (M 127)) : VR (rowS C s p q) M p q := by
  obtain ⟨⟨a1, a2, a3, a4, a5, a6, a7, a8, a9⟩, b1, b2, b3, b4⟩ := hS
  exact ⟨h10 q hq, h11 q hq, h12 p hp, h13 p hp, rfl, rfl, a4, b2 q hq, a7⟩
theorem knows_y {I : mI} {np nq p q : Nat} (hn : np ≤ 12) (hm : nq ≤ 6) (e1 : I 8 6 = nI np) (e3 : I 8 7 = nI nq) (hp : p < nq) (hq : q < np) : r0_knows I (nI p) (nI q) = 1 := by
  unfold r0_knows
  rw [hasPlayer_y hm e3 hp, hasPiece_y hn e1 hq, if_neg one_n0, if_neg one_n0]
theorem ex3 {A : Option (Int32 × mI × Nat)} {B : mI → Option (Int32 × mI)} {v v' : Int32} {I1 I2 : mI} {s1 : Nat} (h1 : A = some (v, I1, s1)) (h2 : B I1 = some (v', I2)) (e : v' = v) (h3 : Inv I2 s1) : ∃ (v : Int32) (I1 : mI) (s1 : Nat) (I2 : mI), A = some (v, I1, s1) ∧ B I1 = some (v, I2) ∧ Inv I2 s1 := by
  subst e
  exact ⟨_, _, _, _, h1, h2, h3⟩
theorem Inv_asked {I : mI} {s : Nat} (h : Inv I s) (V H A H' : Nat → Int32) : Inv (mU (mU (mW (mU (mU (mW I 1 3 1) 40 V) 41 H) 119 0 0) 142 A) 143 H') 3 := by
  refine Inv_frame h (.inl rfl) (fun a ha => ?_) (fun k hk => ?_)
  · rw [mU_ne _ _ (by omega), mU_ne _ _ (by omega), mW_ne _ _ _ (by omega), mU_ne _ _ (by omega), mU_ne _ _ (by omega), mW_ne _ _ _ (by omega)]
  · rw [mU_ne _ _ (by decide), mU_ne _ _ (by decide), mW_off _ _ (by omega), mU_ne _ _ (by decide), mU_ne _ _ (by decide), mW_ne _ _ _ (by decide)]
theorem op_settles : S_settles Inv := by
  intro I s h x0 x1
  obtain ⟨np, nq, hp, hq, e1, e2, e3, e4⟩ := RelC_n h.1
  unfold r9_settles r10_settles1
  by_cases a : r0_hasPlayer I x0 = 0
  · refine ex3 (B := fun J => (if r10_isPlayer (mW J 119 0 0) x0 = 0 then some (-1, mW J 119 0 0) else if r10_isPiece (mW J 119 0 0) x1 = 0 then some (-1, mW J 119 0 0) else (r10_settlesOf (mW J 119 0 0) x0 x1 0).bind fun z1 => some (z1.1, z1.2) : Option (Int32 × mI)).bind fun z0 => some (z0.1, z0.2)) (v := -1) (v' := -1) (I1 := I) (s1 := s) ?_ ?_ rfl (Inv_told 0 h)
    · unfold r0_knows; rw [a, if_pos rfl, if_pos rfl]
    · simp only [isPlayer_e (I := I) (J := mW I 119 0 0) hq e3 e4, a, reduceIte, Option.bind_some]
  by_cases b : r0_hasPiece I x1 = 0
  · refine ex3 (B := fun J => (if r10_isPlayer (mW J 119 0 0) x0 = 0 then some (-1, mW J 119 0 0) else if r10_isPiece (mW J 119 0 0) x1 = 0 then some (-1, mW J 119 0 0) else (r10_settlesOf (mW J 119 0 0) x0 x1 0).bind fun z1 => some (z1.1, z1.2) : Option (Int32 × mI)).bind fun z0 => some (z0.1, z0.2)) (v := -1) (v' := -1) (I1 := I) (s1 := s) ?_ ?_ rfl (Inv_told 0 h)
    · unfold r0_knows; rw [if_neg a, b, if_pos rfl, if_pos rfl]
    · simp only [isPlayer_e (I := I) (J := mW I 119 0 0) hq e3 e4, isPiece_e (I := I) (J := mW I 119 0 0) hp e1 e2, if_neg a, b, reduceIte, Option.bind_some]
  obtain ⟨p, hp1, rfl⟩ := hasPlayer_t hq e3 a
  obtain ⟨q, hq1, rfl⟩ := hasPiece_t hp e1 b
  have kn : r0_knows I (nI p) (nI q) = 1 := knows_y hp hq e1 e3 hp1 hq1
  obtain ⟨⟨hS, hw⟩, ⟨⟨r1, r2, r3, r4, r5, r6, r7⟩, _⟩, hP, hK, hL, hLaw, hD, hB⟩ := h.1
  have hV : VR (rowS (mW I 1 3 1) 3 p q) I p q := seat_VR (C := mW I 1 3 1) (s := 3) (by omega) (by omega) hS r4 r5 r6 r7
  obtain ⟨v, H, H', V, A, _, g1, _, _, _⟩ := settles_e (C := mU (mW I 1 3 1) 40 (rowS (mW I 1 3 1) 3 p q)) (M := I) (s := 3) (p := p) (q := q) (.inl rfl) (by omega) (by omega) hLaw hS.1.1 hS.1.2.1 hV
  have eC : r5_askNow I s 2 (nI p) (nI q) (-1) = some (v, mU (mU (mW I 1 3 1) 40 V) 41 H, 3) := by
    unfold r5_askNow r5_wake
    rw [kn, if_neg one_n0, Option.bind_some, seat_e (.inl rfl) (by omega) (by omega), Option.bind_some, if_pos (by decide), Option.bind_some, g1, Option.bind_some, mU_mU]
  have hV2 : VR (rowS (mW I 1 3 1) 3 p q) (mW (mU (mU (mW I 1 3 1) 40 V) 41 H) 119 0 0) p q := hV
  obtain ⟨v2, _, H2, _, A2, _, k1, _, _, k2⟩ := settles_e (C := mU (mW I 1 3 1) 40 (rowS (mW I 1 3 1) 3 p q)) (M := mW (mU (mU (mW I 1 3 1) 40 V) 41 H) 119 0 0) (s := 3) (p := p) (q := q) (.inl rfl) (by omega) (by omega) hLaw hS.1.1 hS.1.2.1 hV2
  have ev : v2 = v := by
    rw [g1] at k1
    exact (congrArg (fun z => (Option.getD z (0, I)).1) k1).symm
  refine ⟨v, mU (mU (mW I 1 3 1) 40 V) 41 H, 3, mU (mU (mW (mU (mU (mW I 1 3 1) 40 V) 41 H) 119 0 0) 142 A2) 143 H2, ?_, ?_, Inv_asked h V H A2 H2⟩
  · rw [kn, if_neg one_n0, eC, Option.bind_some]
  · rw [isPlayer_e (I := I) (J := mW (mU (mU (mW I 1 3 1) 40 V) 41 H) 119 0 0) hq e3 e4, isPiece_e (I := I) (J := mW (mU (mU (mW I 1 3 1) 40 V) 41 H) 119 0 0) hp e1 e2, if_neg a, if_neg b]
    rw [show r10_settlesOf (mW (mU (mU (mW I 1 3 1) 40 V) 41 H) 119 0 0) (nI p) (nI q) 0 = _ from k2, Option.bind_some, Option.bind_some, ev]
theorem op_damps : S_damps Inv := by
  intro I s h x0 x1 x2
  obtain ⟨np, nq, hp, hq, e1, e2, e3, e4⟩ := RelC_n h.1
  have fail : r9_damps I s x0 x1 x2 = some (-1, I, s) → r10_damps I x0 x1 x2 = some (-1, mW I 119 0 0) → ∃ v I1 s1 I2, r9_damps I s x0 x1 x2 = some (v, I1, s1) ∧ r10_damps I1 x0 x1 x2 = some (v, I2) ∧ Inv I2 s1 := fun g1 g2 => ⟨-1, I, s, _, g1, g2, Inv_told 0 h⟩
  unfold r9_damps r10_damps at *
  by_cases a : r0_hasPlayer I x0 = 0
  · refine fail ?_ ?_
    · unfold r0_knows; rw [a, if_pos rfl, if_pos rfl]
    · simp only [isPlayer_e (I := I) (J := mW I 119 0 0) hq e3 e4, a, reduceIte, Option.bind_some]
  by_cases b : r0_hasPiece I x1 = 0
  · refine fail ?_ ?_
    · unfold r0_knows; rw [if_neg a, b, if_pos rfl, if_pos rfl]
    · simp only [isPlayer_e (I := I) (J := mW I 119 0 0) hq e3 e4, isPiece_e (I := I) (J := mW I 119 0 0) hp e1 e2, if_neg a, b, reduceIte, Option.bind_some]
  obtain ⟨p, hp1, rfl⟩ := hasPlayer_t hq e3 a
  obtain ⟨q, hq1, rfl⟩ := hasPiece_t hp e1 b
  have kn : r0_knows I (nI p) (nI q) = 1 := knows_y hp hq e1 e3 hp1 hq1
  by_cases c : r10_isString x2 = 0
  · refine fail ?_ ?_
    · rw [kn, if_neg one_n0]
      rw [isString_l] at c
      by_cases d : x2 < 0
      · rw [if_pos d]
      · rw [if_neg d] at c ⊢
        by_cases d2 : x2 < 8
        · rw [if_pos d2] at c; exact absurd c one_n0
        · rw [if_neg d2]
    · simp only [isPlayer_e (I := I) (J := mW I 119 0 0) hq e3 e4, isPiece_e (I := I) (J := mW I 119 0 0) hp e1 e2, if_neg a, if_neg b, c, reduceIte, Option.bind_some]
  clear fail
  obtain ⟨st, hst, rfl⟩ := isString_i c
  obtain ⟨⟨hS, hw⟩, ⟨⟨r1, r2, r3, r4, r5, r6, r7⟩, _⟩, hP, hK, hL, hLaw, hD, hB⟩ := h.1
  have hV0 : VR (rowS (mW I 1 3 1) 3 p q) I p q := seat_VR (C := mW I 1 3 1) (s := 3) (by omega) (by omega) hS r4 r5 r6 r7
  have hV : VRs (mU (mU (rowS (mW I 1 3 1) 3 p q) 7 (nI st)) 6 (I 7 st)) I p q st := by
    obtain ⟨v0, v1, v2, v3, v6, v7, v8, v10, v11⟩ := hV0
    exact ⟨v0, v1, v2, v3, hS.2.1 st hst, rfl, v8, v10, v11⟩
  obtain ⟨v, H, H', V, A, _, g1, _, _, _⟩ := damps_e (C := mU (mW I 1 3 1) 40 (mU (mU (rowS (mW I 1 3 1) 3 p q) 7 (nI st)) 6 (I 7 st))) (M := I) (s := 3) (p := p) (q := q) (.inl rfl) (by omega) (by omega) hst hLaw hS.1.1 hS.1.2.1 hV
  have eC : r5_askNow I s 1 (nI p) (nI q) (nI st) = some (v, mU (mU (mW I 1 3 1) 40 V) 41 H, 3) := by
    unfold r5_askNow r5_wake
    rw [kn, if_neg one_n0, Option.bind_some, seat_e (.inl rfl) (by omega) (by omega), Option.bind_some, if_neg (nI_pos (by omega)), if_neg (show ¬ (8 : Int32) ≤ nI st from nI_ge (b := 8) hst (by decide)), mLd_n hst (by decide), Option.bind_some, Option.bind_some, mW_mU, mW_mU]
    rw [show (mU (mW I 1 3 1) 40 (mU (rowS (mW I 1 3 1) 3 p q) 7 (nI st))) 7 st = I 7 st from rfl, g1, Option.bind_some, mU_mU]
  have hV2 : VRs (mU (mU (rowS (mW I 1 3 1) 3 p q) 7 (nI st)) 6 (I 7 st)) (mW (mU (mU (mW I 1 3 1) 40 V) 41 H) 119 0 0) p q st := hV
  obtain ⟨v2, _, H2, _, A2, _, k1, _, _, k2⟩ := damps_e (C := mU (mW I 1 3 1) 40 (mU (mU (rowS (mW I 1 3 1) 3 p q) 7 (nI st)) 6 (I 7 st))) (M := mW (mU (mU (mW I 1 3 1) 40 V) 41 H) 119 0 0) (s := 3) (p := p) (q := q) (.inl rfl) (by omega) (by omega) hst hLaw hS.1.1 hS.1.2.1 hV2
  have ev : v2 = v := by
    rw [g1] at k1
    exact (congrArg (fun z => (Option.getD z (0, I)).1) k1).symm
  refine ⟨v, mU (mU (mW I 1 3 1) 40 V) 41 H, 3, mU (mU (mW (mU (mU (mW I 1 3 1) 40 V) 41 H) 119 0 0) 142 A2) 143 H2, ?_, ?_, Inv_asked h V H A2 H2⟩
  · rw [kn, if_neg one_n0, if_neg (nI_pos (by omega)), if_pos (show nI st < (8 : Int32) from nI_lt (b := 8) hst (by decide)), eC, Option.bind_some]
  · rw [isPlayer_e (I := I) (J := mW (mU (mU (mW I 1 3 1) 40 V) 41 H) 119 0 0) hq e3 e4, isPiece_e (I := I) (J := mW (mU (mU (mW I 1 3 1) 40 V) 41 H) 119 0 0) hp e1 e2, if_neg a, if_neg b, if_neg c]
    rw [show r10_dampsOf (mW (mU (mU (mW I 1 3 1) 40 V) 41 H) 119 0 0) (nI p) (nI q) (nI st) 0 = _ from k2, Option.bind_some, Option.bind_some, ev]
theorem like_e {I : mI} {n : Nat} (hn : n ≤ 16) (e : I 24 2 = nI n) (p : Int32) : r8_likeOf I p = some (likeSet (I 25) p n) := by
  obtain ⟨u, q1, q2⟩ := loop1 (fun f k b => l8_likeOf_4 I p f b (nI k)) (fun k b => b = likeSet (I 25) p k) (fun u => u = likeSet (I 25) p n) n
    (fun b hb => ⟨b, fun f => by show l8_likeOf_4 _ _ (f + 1) _ _ = _; rw [l8_likeOf_4, e, if_pos (nI_le (Nat.le_refl _) (by omega))], hb⟩)
    (fun k b hk hb => by
      subst hb
      refine .inr ⟨_, fun f _ => ?_, rfl⟩
      show l8_likeOf_4 _ _ (f + 1) _ _ = l8_likeOf_4 _ _ f _ _
      have cell : ∀ (c : Nat) (k' : Int32), c < 9 → k' = nI c → r6_cell_24 I (nI k) k' = some (I 25 (9 * k + c)) := by
        intro c k' hc hk'
        unfold r6_cell_24
        rw [hk', show (9 : Int32) = nI 9 from rfl, nI_mul, nI_add, Nat.mul_comm k 9, if_neg (nI_pos (by omega)), if_neg (show ¬ (144 : Int32) ≤ nI (9 * k + c) from nI_ge (b := 144) (by omega) (by decide)), mLd_n (by omega) (by decide), Option.bind_some, Option.bind_some]
      rw [l8_likeOf_4, e, if_neg (nI_ge hk (by omega)), cell 0 0 (by decide) rfl, cell 1 1 (by decide) rfl, Option.bind_some, Option.bind_some, ite_some, ite_some, Option.bind_some, nI_1]
      rfl) n 0 FU 0 (by omega) (FU_lt (by omega)) rfl
  unfold r8_likeOf
  rw [show l8_likeOf_4 I p FU 0 0 = some u from q1, q2, Option.bind_some]
theorem op_of : S_of Inv := by
  intro I s h x0 x1
  obtain ⟨np, nq, hp, hq, e1, e2, e3, e4⟩ := RelC_n h.1
  obtain ⟨⟨hS, hw⟩, ⟨⟨r1, r2, r3, r4, r5, r6, r7⟩, _⟩, hP, hK, ⟨nl, hnl, l1, l2, _, l4⟩, hLaw, hD, hB⟩ := h.1
  unfold r9_of r10_of
  by_cases b : r0_hasPiece I x0 = 0
  · refine ⟨-1, I, s, mW I 119 0 0, by rw [if_pos b], ?_, Inv_told 0 h⟩
    rw [isPiece_e (I := I) (J := mW I 119 0 0) hp e1 e2, if_pos b]
  obtain ⟨q, hq1, rfl⟩ := hasPiece_t hp e1 b
  rw [if_neg b, like_e hnl l2]
  have eI : ∀ (J : mI), J 119 7 = nI nq → (9 + J 119 7) = nI (9 + nq) := fun J e => by rw [e, nI_addl (show (9 : Int32) = nI 9 by decide)]
  by_cases c : r10_isIn x1 10 (nI (9 + nq)) = 0
  · have cc : ¬ (¬ x1 < 10 ∧ ¬ r0_hasPlayer I (x1 - 10) = 0) := by
      rintro ⟨d1, d2⟩
      obtain ⟨k, hk, ek⟩ := hasPlayer_t hq e3 d2
      have ex : x1 = nI (k + 10) := by
        rw [← nI_add, ← ek, show nI 10 = (10 : Int32) from rfl, Int32.sub_add_cancel]
      rcases isIn_no c with q1 | q1
      · exact d1 q1
      · rw [ex, nI_ltI (by omega) (by omega)] at q1
        omega
    have mid : ∃ v, (if x1 = 0 then (mLd I 9 12 (nI q)).bind fun z0 => some (z0, I, s) else if x1 = 1 then (mLd I 10 12 (nI q)).bind fun z1 => some (z1, I, s) else if x1 = 2 then (mLd I 11 12 (nI q)).bind fun z2 => some (z2, I, s) else if x1 = 3 then (mLd I 4 12 (nI q)).bind fun z3 => some (z3, I, s) else if x1 = 4 then (mLd I 5 12 (nI q)).bind fun z4 => some (z4, I, s) else if x1 = 5 then (some (likeSet (I 25) (nI q) nl)).bind fun z5 => some (z5, I, s) else some (-1, I, s) : Option (Int32 × mI × Nat)) = some (v, I, s) ∧ (if x1 = 0 then (mLd (mW I 119 0 0) 123 12 (nI q)).bind fun z6 => some (z6, (mW I 119 0 0)) else if x1 = 1 then (mLd (mW I 119 0 0) 124 12 (nI q)).bind fun z5 => some (z5, (mW I 119 0 0)) else if x1 = 2 then (mLd (mW I 119 0 0) 125 12 (nI q)).bind fun z4 => some (z4, (mW I 119 0 0)) else if x1 = 3 then (mLd (mW I 119 0 0) 120 47 (17 + nI q)).bind fun z3 => some (z3, (mW I 119 0 0)) else (if x1 = 4 then (mLd (mW I 119 0 0) 120 47 (29 + nI q)).bind fun z2 => some z2 else if x1 = 5 then (mLd (mW I 119 0 0) 141 24 (nI q)).bind fun z1 => some z1 else some (-1) : Option Int32).bind fun z0 => some (z0, (mW I 119 0 0)) : Option (Int32 × mI)) = some (v, mW I 119 0 0) := by
      simp only [nI_addl (show (17 : Int32) = nI 17 by decide), nI_addl (show (29 : Int32) = nI 29 by decide), mLd_n (show q < 12 by omega) (show 12 < 2 ^ 31 by decide), mLd_n (show q < 24 by omega) (show 24 < 2 ^ 31 by decide), mLd_n (show 17 + q < 47 by omega) (show 47 < 2 ^ 31 by decide), mLd_n (show 29 + q < 47 by omega) (show 47 < 2 ^ 31 by decide), Option.bind_some]
      by_cases y0 : x1 = 0
      · exact ⟨_, by rw [if_pos y0], by rw [if_pos y0]; exact congrArg (fun z => some (z, mW I 119 0 0)) (r3 q (by omega)).symm⟩
      by_cases y1 : x1 = 1
      · exact ⟨_, by rw [if_neg y0, if_pos y1], by rw [if_neg y0, if_pos y1]; exact congrArg (fun z => some (z, mW I 119 0 0)) (r4 q (by omega)).symm⟩
      by_cases y2 : x1 = 2
      · exact ⟨_, by rw [if_neg y0, if_neg y1, if_pos y2], by rw [if_neg y0, if_neg y1, if_pos y2]; exact congrArg (fun z => some (z, mW I 119 0 0)) (r5 q (by omega)).symm⟩
      by_cases y3 : x1 = 3
      · exact ⟨_, by rw [if_neg y0, if_neg y1, if_neg y2, if_pos y3], by rw [if_neg y0, if_neg y1, if_neg y2, if_pos y3]; exact congrArg (fun z => some (z, mW I 119 0 0)) (hS.2.2.1 q (by omega)).symm⟩
      by_cases y4 : x1 = 4
      · exact ⟨_, by rw [if_neg y0, if_neg y1, if_neg y2, if_neg y3, if_pos y4], by rw [if_neg y0, if_neg y1, if_neg y2, if_neg y3, if_pos y4]; exact congrArg (fun z => some (z, mW I 119 0 0)) (hS.2.2.2.1 q (by omega)).symm⟩
      by_cases y5 : x1 = 5
      · exact ⟨_, by rw [if_neg y0, if_neg y1, if_neg y2, if_neg y3, if_neg y4, if_pos y5], by rw [if_neg y0, if_neg y1, if_neg y2, if_neg y3, if_neg y4, if_pos y5]; exact congrArg (fun z => some (z, mW I 119 0 0)) (l4 q (by omega))⟩
      · exact ⟨_, by rw [if_neg y0, if_neg y1, if_neg y2, if_neg y3, if_neg y4, if_neg y5], by rw [if_neg y0, if_neg y1, if_neg y2, if_neg y3, if_neg y4, if_neg y5]; rfl⟩
    obtain ⟨v, m1, m2⟩ := mid
    refine ⟨v, I, s, mW I 119 0 0, ?_, ?_, Inv_told 0 h⟩
    · by_cases d1 : x1 < 10
      · rw [if_pos d1]; exact m1
      · rw [if_neg d1, if_pos (Classical.byContradiction fun d2 => cc ⟨d1, d2⟩)]; exact m1
    · rw [isPiece_e (I := I) (J := mW I 119 0 0) hp e1 e2, if_neg b, eI I e4, if_pos c]
      exact m2
  · obtain ⟨d1, d2⟩ := isIn_yes c
    have hx : ∃ p, p < nq ∧ x1 - 10 = nI p := by
      obtain ⟨k, hk, ek⟩ := nI_of2 (M := nI (9 + nq)) (n := 9 + nq) (nI_toInt (by omega)) (lt0_of (c := 10) (by decide) d1) (i32_nlt.mp d2)
      rw [ek, i32_lt, nI_toInt (by omega), show (10 : Int32).toInt = 10 by decide] at d1
      exact ⟨k - 10, by omega, by rw [ek]; exact nI_sub (b := 10) (by omega)⟩
    obtain ⟨p, hp1, ep⟩ := hx
    have hpy : r0_hasPlayer I (nI p) = 1 := hasPlayer_y hq e3 hp1
    rw [ep, hpy, if_neg d1, if_neg one_n0]
    have kn : r0_knows I (nI p) (nI q) = 1 := knows_y hp hq e1 e3 hp1 hq1
    have hV : VR (rowS (mW I 1 3 1) 3 p q) I p q := seat_VR (C := mW I 1 3 1) (s := 3) (by omega) (by omega) hS r4 r5 r6 r7
    obtain ⟨v, H, H', V, A, _, g1, _, _, _⟩ := weeps_e (C := mU (mW I 1 3 1) 40 (rowS (mW I 1 3 1) 3 p q)) (M := I) (s := 3) (p := p) (q := q) (.inl rfl) (by omega) (by omega) hLaw hS.1.1 hS.1.2.1 hV
    have eC : r5_askNow I s 0 (nI p) (nI q) (-1) = some (v, mU (mU (mW I 1 3 1) 40 V) 41 H, 3) := by
      unfold r5_askNow r5_wake
      rw [kn, if_neg one_n0, Option.bind_some, seat_e (.inl rfl) (by omega) (by omega), Option.bind_some, if_pos (by decide), Option.bind_some, g1, Option.bind_some, mU_mU]
    have hV2 : VR (rowS (mW I 1 3 1) 3 p q) (mW (mU (mU (mW I 1 3 1) 40 V) 41 H) 119 0 0) p q := hV
    obtain ⟨v2, _, H2, _, A2, _, k1, _, _, k2⟩ := weeps_e (C := mU (mW I 1 3 1) 40 (rowS (mW I 1 3 1) 3 p q)) (M := mW (mU (mU (mW I 1 3 1) 40 V) 41 H) 119 0 0) (s := 3) (p := p) (q := q) (.inl rfl) (by omega) (by omega) hLaw hS.1.1 hS.1.2.1 hV2
    have ev : v2 = v := by
      rw [g1] at k1
      exact (congrArg (fun z => (Option.getD z (0, I)).1) k1).symm
    refine ⟨v, mU (mU (mW I 1 3 1) 40 V) 41 H, 3, mU (mU (mW (mU (mU (mW I 1 3 1) 40 V) 41 H) 119 0 0) 142 A2) 143 H2, ?_, ?_, Inv_asked h V H A2 H2⟩
    · rw [eC, Option.bind_some]
    · rw [isPiece_e (I := I) (J := mW (mU (mU (mW I 1 3 1) 40 V) 41 H) 119 0 0) hp e1 e2, if_neg b, eI (mU (mU (mW I 1 3 1) 40 V) 41 H) e4, if_neg c]
      rw [show r10_weepsOf (mW (mU (mU (mW I 1 3 1) 40 V) 41 H) 119 0 0) (nI p) (nI q) 0 = _ from k2, Option.bind_some, ev]

/-! HAVE: which pieces a player may have -/
theorem twice2 {I : mI} {A : Option (Int32 × mI)} {B : mI → Option (Int32 × mI)} {Q : mI → mI → mI → Prop} (h : ∀ M, (∀ a, 119 ≤ a → M a = I a) → ∃ v C' M', A = some (v, C') ∧ B M = some (v, M') ∧ (∀ a, 119 ≤ a → C' a = I a) ∧ Q M C' M') : ∃ v C' M', A = some (v, C') ∧ B C' = some (v, M') ∧ (∀ a, 119 ≤ a → C' a = I a) ∧ Q C' C' M' := by
  obtain ⟨v, C', M', a, b, c, d⟩ := h I (fun _ _ => rfl)
  obtain ⟨v2, C2, M2, a2, b2, c2, d2⟩ := h C' c
  rw [a] at a2
  have e := Option.some.inj a2
  have e1 : v = v2 := congrArg Prod.fst e
  have e2 : C' = C2 := congrArg (fun z => z.2) e
  subst e1 e2
  exact ⟨v, C', M2, a, b2, c, d2⟩
def sN (f : Nat → Nat) : Nat → Nat
  | 0 => 0
  | n + 1 => sN f n + f n
theorem sN_le {f : Nat → Nat} {b : Nat} : ∀ n, (∀ i, i < n → f i ≤ b) → sN f n ≤ n * b
  | 0, _ => by unfold sN; omega
  | n + 1, h => by
    have := sN_le n (fun i hi => h i (by omega))
    have := h n (by omega)
    unfold sN
    rw [Nat.add_mul]
    omega
theorem sN_add {f g e : Nat → Nat} : ∀ n, (∀ i, i < n → e i = f i + g i) → sN e n = sN f n + sN g n
  | 0, _ => rfl
  | n + 1, h => by
    have := sN_add n (fun i hi => h i (by omega))
    have := h n (by omega)
    unfold sN
    omega
theorem sN_0 {f : Nat → Nat} : ∀ n, (∀ i, i < n → f i = 0) → sN f n = 0
  | 0, _ => rfl
  | n + 1, h => by
    have := sN_0 n (fun i hi => h i (by omega))
    have := h n (by omega)
    unfold sN
    omega
/-- what the rooms are held against -/
def HvC (C M : mI) (np nq : Nat) (a h r : Nat → Nat) : Prop := (np ≤ 12) ∧ (nq ≤ 6) ∧ (C 8 6 = nI np) ∧ (C 8 7 = nI nq) ∧ (M 119 6 = nI np) ∧ (M 119 7 = nI nq) ∧ (∀ j, j < 6 → a j ≤ 9) ∧ (∀ i, i < 12 → h i ≤ 9) ∧ (∀ j, j < 6 → C 12 j = nI (a j)) ∧ (∀ j, j < 6 → M 126 j = nI (a j)) ∧ (∀ i, i < 12 → C 11 i = nI (h i)) ∧ (∀ i, i < 12 → M 125 i = nI (h i)) ∧ (∀ j, j < 6 → r j ≤ 12) ∧ (∀ j, j < 6 → C 14 j = nI (r j)) ∧ (∀ j, j < 6 → M 153 j = nI (r j))
theorem HvC.np12 {C M : mI} {np nq : Nat} {a h r : Nat → Nat} (H : HvC C M np nq a h r) : np ≤ 12 := H.1
theorem HvC.nq6 {C M : mI} {np nq : Nat} {a h r : Nat → Nat} (H : HvC C M np nq a h r) : nq ≤ 6 := H.2.1
theorem HvC.c6 {C M : mI} {np nq : Nat} {a h r : Nat → Nat} (H : HvC C M np nq a h r) : C 8 6 = nI np := H.2.2.1
theorem HvC.c7 {C M : mI} {np nq : Nat} {a h r : Nat → Nat} (H : HvC C M np nq a h r) : C 8 7 = nI nq := H.2.2.2.1
theorem HvC.m6 {C M : mI} {np nq : Nat} {a h r : Nat → Nat} (H : HvC C M np nq a h r) : M 119 6 = nI np := H.2.2.2.2.1
theorem HvC.m7 {C M : mI} {np nq : Nat} {a h r : Nat → Nat} (H : HvC C M np nq a h r) : M 119 7 = nI nq := H.2.2.2.2.2.1
theorem HvC.a9 {C M : mI} {np nq : Nat} {a h r : Nat → Nat} (H : HvC C M np nq a h r) : ∀ j, j < 6 → a j ≤ 9 := H.2.2.2.2.2.2.1
theorem HvC.h9 {C M : mI} {np nq : Nat} {a h r : Nat → Nat} (H : HvC C M np nq a h r) : ∀ i, i < 12 → h i ≤ 9 := H.2.2.2.2.2.2.2.1
theorem HvC.ca {C M : mI} {np nq : Nat} {a h r : Nat → Nat} (H : HvC C M np nq a h r) : ∀ j, j < 6 → C 12 j = nI (a j) := H.2.2.2.2.2.2.2.2.1
theorem HvC.ma {C M : mI} {np nq : Nat} {a h r : Nat → Nat} (H : HvC C M np nq a h r) : ∀ j, j < 6 → M 126 j = nI (a j) := H.2.2.2.2.2.2.2.2.2.1
theorem HvC.ch {C M : mI} {np nq : Nat} {a h r : Nat → Nat} (H : HvC C M np nq a h r) : ∀ i, i < 12 → C 11 i = nI (h i) := H.2.2.2.2.2.2.2.2.2.2.1
theorem HvC.mh {C M : mI} {np nq : Nat} {a h r : Nat → Nat} (H : HvC C M np nq a h r) : ∀ i, i < 12 → M 125 i = nI (h i) := H.2.2.2.2.2.2.2.2.2.2.2.1
theorem HvC.r12 {C M : mI} {np nq : Nat} {a h r : Nat → Nat} (H : HvC C M np nq a h r) : ∀ j, j < 6 → r j ≤ 12 := H.2.2.2.2.2.2.2.2.2.2.2.2.1
theorem HvC.cr {C M : mI} {np nq : Nat} {a h r : Nat → Nat} (H : HvC C M np nq a h r) : ∀ j, j < 6 → C 14 j = nI (r j) := H.2.2.2.2.2.2.2.2.2.2.2.2.2.1
theorem HvC.mr {C M : mI} {np nq : Nat} {a h r : Nat → Nat} (H : HvC C M np nq a h r) : ∀ j, j < 6 → M 153 j = nI (r j) := H.2.2.2.2.2.2.2.2.2.2.2.2.2.2
def Rm (nq : Nat) (a r : Nat → Nat) (g : Nat) : Nat := sN (fun j => if a j < g then 0 else r j) nq
theorem Rm_le {C M : mI} {np nq : Nat} {a h r : Nat → Nat} (H : HvC C M np nq a h r) (g : Nat) : Rm nq a r g ≤ 72 := by
  have := sN_le (f := fun j => if a j < g then 0 else r j) (b := 12) nq (fun i hi => by
    have := H.r12 i (by have := H.nq6; omega)
    show (if a i < g then 0 else r i) ≤ 12
    split <;> omega)
  have := H.nq6
  unfold Rm
  omega
theorem hv16 {C M : mI} {np nq : Nat} {a h r : Nat → Nat} (H : HvC C M np nq a h r) {g free : Nat} (hg : g ≤ 9) : l0_mostHadFrom_16 C (nI g) FU (nI free) 0 = some (nI (free + sN (fun j => if a j = g then r j else 0) nq)) := by
  have h6 := H.nq6
  obtain ⟨u, q1, q2⟩ := loop1 (fun f k (y : Int32) => l0_mostHadFrom_16 C (nI g) f y (nI k)) (fun k y => y = nI (free + sN (fun j => if a j = g then r j else 0) k)) (fun y => y = nI (free + sN (fun j => if a j = g then r j else 0) nq)) nq
    (fun y hy => ⟨y, fun f => by show l0_mostHadFrom_16 _ _ (f + 1) _ _ = _; rw [l0_mostHadFrom_16, H.c7, if_pos (by rw [i32_le]; omega)], hy⟩)
    (fun k y hk hy => .inr ⟨y + nI (if a k = g then r k else 0), fun f _ => by
      show l0_mostHadFrom_16 _ _ (f + 1) _ _ = _
      rw [l0_mostHadFrom_16, H.c7, if_neg (nI_ge hk (by omega)), mLd_n (by omega) (by decide), Option.bind_some, H.ca k (by omega)]
      have ha := H.a9 k (by omega)
      by_cases z : a k = g
      · rw [if_pos ((nI_eq (by omega) (by omega)).mpr z), if_pos z, mLd_n (by omega) (by decide), Option.bind_some, H.cr k (by omega), Option.bind_some, nI_1]
      · rw [if_neg (fun q => z ((nI_eq (by omega) (by omega)).mp q)), if_neg z, Option.bind_some, nI_1]
        rfl, by
      rw [hy, nI_add, Nat.add_assoc]
      rfl⟩) nq 0 FU (nI free) (by omega) (FU_lt (by omega)) rfl
  rw [← q2]
  exact q1
def Wn (h : Nat → Nat) (g first n : Nat) : Nat := sN (fun i => if h (first + i) = g then 1 else 0) n
theorem Wn_le (h : Nat → Nat) (g first n : Nat) : Wn h g first n ≤ n := by
  have := sN_le (f := fun i => if h (first + i) = g then 1 else 0) (b := 1) n (fun i _ => by show (if h (first + i) = g then 1 else 0) ≤ 1; split <;> omega)
  unfold Wn
  omega
theorem hv63 {C M : mI} {np nq : Nat} {a h r : Nat → Nat} (H : HvC C M np nq a h r) {g first : Nat} (hg : g ≤ 9) (hf : first ≤ np) : l0_mostHadFrom_63 C (nI g) FU 0 (nI first) = some (nI (Wn h g first (np - first))) := by
  have h12 := H.np12
  obtain ⟨u, q1, q2⟩ := loop1 (fun f k (y : Int32) => l0_mostHadFrom_63 C (nI g) f y (nI (first + k))) (fun k y => y = nI (Wn h g first k)) (fun y => y = nI (Wn h g first (np - first))) (np - first)
    (fun y hy => ⟨y, fun f => by show l0_mostHadFrom_63 _ _ (f + 1) _ _ = _; rw [l0_mostHadFrom_63, H.c6, if_pos (by rw [nI_leI (by omega) (by omega)]; omega)], hy⟩)
    (fun k y hk hy => .inr ⟨y + nI (if h (first + k) = g then 1 else 0), fun f _ => by
      show l0_mostHadFrom_63 _ _ (f + 1) _ _ = _
      rw [l0_mostHadFrom_63, H.c6, if_neg (nI_ge (by omega) (by omega)), mLd_n (by omega) (by decide), Option.bind_some, H.ch (first + k) (by omega)]
      have ha := H.h9 (first + k) (by omega)
      by_cases z : h (first + k) = g
      · rw [if_pos ((nI_eq (by omega) (by omega)).mpr z), if_pos z, Option.bind_some, nI_1]
        rfl
      · rw [if_neg (fun q => z ((nI_eq (by omega) (by omega)).mp q)), if_neg z, Option.bind_some, nI_1]
        rfl, by
      rw [hy, nI_add]
      rfl⟩) (np - first) 0 FU 0 (by omega) (FU_lt (by omega)) rfl
  rw [← q2]
  exact q1
theorem hvRoom {C M : mI} {np nq : Nat} {a h r : Nat → Nat} (H : HvC C M np nq a h r) {i : Nat} (hi : i < 12) : r10_roomFor M (nI i) = some (nI (Rm nq a r (h i))) := by
  have h6 := H.nq6
  have hh := H.h9 i hi
  obtain ⟨u, q1, q2⟩ := loop1 (fun f k (y : Int32) => l10_roomFor_4 M (nI i) f y (nI k)) (fun k y => y = nI (sN (fun j => if a j < h i then 0 else r j) k)) (fun y => y = nI (Rm nq a r (h i))) nq
    (fun y hy => ⟨y, fun f => by show l10_roomFor_4 _ _ (f + 1) _ _ = _; rw [l10_roomFor_4, H.m7, if_pos (by rw [i32_le]; omega)], hy⟩)
    (fun k y hk hy => .inr ⟨y + nI (if a k < h i then 0 else r k), fun f _ => by
      show l10_roomFor_4 _ _ (f + 1) _ _ = _
      rw [l10_roomFor_4, H.m7, if_neg (nI_ge hk (by omega)), mLd_n (by omega) (by decide), Option.bind_some, mLd_n hi (by decide), Option.bind_some, H.ma k (by omega), H.mh i hi]
      have ha := H.a9 k (by omega)
      by_cases z : a k < h i
      · rw [if_pos ((nI_ltI (by omega) (by omega)).mpr z), if_pos z, Option.bind_some, nI_1, show nI 0 = (0 : Int32) from rfl, Int32.add_zero]
      · rw [if_neg (fun q => z ((nI_ltI (by omega) (by omega)).mp q)), if_neg z, mLd_n (by omega) (by decide), Option.bind_some, H.mr k (by omega), Option.bind_some, nI_1], by
      rw [hy, nI_add]
      rfl⟩) nq 0 FU 0 (by omega) (FU_lt (by omega)) rfl
  unfold r10_roomFor
  rw [show l10_roomFor_4 M (nI i) FU 0 0 = some u from q1, Option.bind_some, q2]
theorem hv12 {C M : mI} {np nq : Nat} {a h r : Nat → Nat} (H : HvC C M np nq a h r) {g first had : Nat} (hg : g ≤ 9) (hf : first ≤ np) (hh : had ≤ Rm nq a r g) : l10_mostHad_12 M (nI g) FU (nI had) (nI first) = some (nI (min (Rm nq a r g) (had + Wn h g first (np - first)))) := by
  have h12 := H.np12
  have hR := Rm_le H g
  obtain ⟨u, q1, q2⟩ := loop1 (fun f k (y : Int32) => l10_mostHad_12 M (nI g) f y (nI (first + k))) (fun k y => y = nI (min (Rm nq a r g) (had + Wn h g first k))) (fun y => y = nI (min (Rm nq a r g) (had + Wn h g first (np - first)))) (np - first)
    (fun y hy => ⟨y, fun f => by show l10_mostHad_12 _ _ (f + 1) _ _ = _; rw [l10_mostHad_12, H.m6, if_pos (by rw [nI_leI (by omega) (by omega)]; omega)], hy⟩)
    (fun k y hk hy => .inr ⟨nI (min (Rm nq a r g) (had + Wn h g first (k + 1))), fun f _ => by
      show l10_mostHad_12 _ _ (f + 1) _ _ = _
      rw [l10_mostHad_12, H.m6, if_neg (nI_ge (by omega) (by omega)), mLd_n (by omega) (by decide), Option.bind_some, H.mh (first + k) (by omega), hy]
      have ha := H.h9 (first + k) (by omega)
      by_cases z : h (first + k) = g
      · have e : Wn h g first (k + 1) = Wn h g first k + 1 := by show Wn h g first k + (if h (first + k) = g then 1 else 0) = _; rw [if_pos z]
        rw [if_pos ((nI_eq (by omega) (by omega)).mpr z), hvRoom H (by omega), Option.bind_some, z, e]
        by_cases w : Rm nq a r g ≤ min (Rm nq a r g) (had + Wn h g first k)
        · rw [if_pos ((nI_leI (by omega) (by omega)).mpr w), Option.bind_some, nI_1, show min (Rm nq a r g) (had + Wn h g first k) = min (Rm nq a r g) (had + (Wn h g first k + 1)) by omega]
          rfl
        · rw [if_neg (fun q => w ((nI_leI (by omega) (by omega)).mp q)), Option.bind_some, nI_1, nI_1, show min (Rm nq a r g) (had + Wn h g first k) + 1 = min (Rm nq a r g) (had + (Wn h g first k + 1)) by omega]
          rfl
      · have e : Wn h g first (k + 1) = Wn h g first k := by show Wn h g first k + (if h (first + k) = g then 1 else 0) = _; rw [if_neg z]; rfl
        rw [if_neg (fun q => z ((nI_eq (by omega) (by omega)).mp q)), Option.bind_some, nI_1, e]
        rfl, rfl⟩) (np - first) 0 FU (nI had) (by omega) (FU_lt (by omega)) (by
      show nI had = nI (min (Rm nq a r g) (had + 0))
      rw [Nat.add_zero, Nat.min_eq_right hh])
  rw [← q2]
  exact q1
theorem Rm_s (nq : Nat) (a r : Nat → Nat) (g : Nat) : Rm nq a r g = Rm nq a r (g + 1) + sN (fun j => if a j = g then r j else 0) nq := by
  refine sN_add nq (fun i _ => ?_)
  show (if a i < g then 0 else r i) = (if a i < g + 1 then 0 else r i) + (if a i = g then r i else 0)
  by_cases z : a i = g
  · rw [if_neg (by omega), if_pos (by omega), if_pos z]; omega
  · rw [if_neg z]
    by_cases w : a i < g
    · rw [if_pos w, if_pos (by omega)]
    · rw [if_neg w, if_neg (by omega)]; rfl
theorem nine_sub : ∀ k, k ≤ 9 → (9 : Int32) - nI k = nI (9 - k) := by decide
theorem min_nI {a b : Nat} (ha : a < 2 ^ 31) (hb : b < 2 ^ 31) : mMin (nI a) (nI b) = nI (min a b) := by
  unfold mMin
  by_cases z : a < b
  · rw [Nat.min_eq_left (by omega)]
    first
      | rw [if_pos ((nI_ltI ha hb).mpr z)]
      | rw [if_neg (fun q => by have := (nI_ltI hb ha).mp q; omega)]
  · rw [Nat.min_eq_right (by omega)]
    first
      | rw [if_neg (fun q => z ((nI_ltI ha hb).mp q))]
      | (by_cases w : b < a
         · rw [if_pos ((nI_ltI hb ha).mpr w)]
         · rw [if_neg (fun q => w ((nI_ltI hb ha).mp q)), show a = b by omega])
theorem most_e {C M : mI} {np nq : Nat} {a h r : Nat → Nat} (H : HvC C M np nq a h r) {first : Nat} (hf : first ≤ np) : ∃ v, v ≤ 72 ∧ r0_mostHadFrom C (nI first) = some (nI v) ∧ r10_mostHad M (nI first) = some (nI v) := by
  have h12 := H.np12
  obtain ⟨x, y, q1, q2, v, hv, ex, ey⟩ := loop2x (fun f k (s : Int32 × Int32) => l0_mostHadFrom_8 C (nI first) f s.1 s.2 (9 - nI k)) (fun f k (y : Int32) => l10_mostHad_5 M (nI first) f y (9 - nI k)) (fun k s y => ∃ free had, free + had = Rm nq a r (10 - k) ∧ s.1 = nI free ∧ s.2 = nI had ∧ y = nI had) (fun x y => ∃ v, v ≤ 72 ∧ x = nI v ∧ y = nI v) 10
    (fun s y ⟨free, had, e, e1, e2, e3⟩ => ⟨s.2, y, fun f => by show l0_mostHadFrom_8 _ _ (f + 1) _ _ _ = _; rw [l0_mostHadFrom_8, if_pos (by decide)], fun f => by show l10_mostHad_5 _ _ (f + 1) _ _ = _; rw [l10_mostHad_5, if_pos (by decide)], had, by have := Rm_le H (10 - 10); omega, e2, e3⟩)
    (fun k s y hk ⟨free, had, e, e1, e2, e3⟩ => by
      have hR := Rm_le H (9 - k)
      have hs := Rm_s nq a r (9 - k)
      rw [show 9 - k + 1 = 10 - k by omega] at hs
      have hW := Wn_le h (9 - k) first (np - first)
      have k9 : (9 : Int32) - nI k + -1 = 9 - nI (k + 1) := by
        have : ∀ k, k < 10 → (9 : Int32) - nI k + -1 = 9 - nI (k + 1) := by decide
        exact this k hk
      refine .inr ⟨(nI (Rm nq a r (9 - k) - had - min (Rm nq a r (9 - k) - had) (Wn h (9 - k) first (np - first))), nI (had + min (Rm nq a r (9 - k) - had) (Wn h (9 - k) first (np - first)))), nI (min (Rm nq a r (9 - k)) (had + Wn h (9 - k) first (np - first))), fun f _ => ?_, fun f _ => ?_, Rm nq a r (9 - k) - had - min (Rm nq a r (9 - k) - had) (Wn h (9 - k) first (np - first)), had + min (Rm nq a r (9 - k) - had) (Wn h (9 - k) first (np - first)), ?_, rfl, rfl, ?_⟩
      · show l0_mostHadFrom_8 _ _ (f + 1) _ _ _ = _
        rw [l0_mostHadFrom_8, nine_sub k (by omega), if_neg (nI_pos (by omega)), e1, e2, hv16 H (by omega), Option.bind_some, hv63 H (by omega) hf, Option.bind_some, show free + sN (fun j => if a j = 9 - k then r j else 0) nq = Rm nq a r (9 - k) - had by omega, min_nI (by omega) (by omega), nI_sub (by omega), nI_add, ← nine_sub k (by omega), k9]
      · show l10_mostHad_5 _ _ (f + 1) _ _ = _
        rw [l10_mostHad_5, nine_sub k (by omega), if_neg (nI_pos (by omega)), e3, hv12 H (by omega) hf (by omega), Option.bind_some, ← nine_sub k (by omega), k9]
      · rw [show 10 - (k + 1) = 9 - k by omega]; omega
      · congr 1; omega) 10 0 FU FU (0, 0) 0 (by omega) (FU_lt (by omega)) (FU_lt (by omega)) ⟨0, 0, by
      have : Rm nq a r 10 = 0 := sN_0 nq (fun i hi => by
        have := H.a9 i (by have := H.nq6; omega)
        show (if a i < 10 then 0 else r i) = 0
        rw [if_pos (by omega)])
      rw [show 10 - 0 = 10 from rfl, this], rfl, rfl, rfl⟩
  refine ⟨v, hv, ?_, ?_⟩
  · unfold r0_mostHadFrom
    rw [show l0_mostHadFrom_8 C (nI first) FU 0 0 9 = some x from q1, Option.bind_some, ex]
  · unfold r10_mostHad
    rw [show l10_mostHad_5 M (nI first) FU 0 9 = some y from q2, Option.bind_some, ey]
theorem HvC_room {C M C' M' : mI} {np nq : Nat} {a h r : Nat → Nat} (H : HvC C M np nq a h r) (r' : Nat → Nat) (hC : ∀ b, b ≠ 14 → C' b = C b) (hM : ∀ b, b ≠ 153 → M' b = M b) (h12 : ∀ j, j < 6 → r' j ≤ 12) (h1 : ∀ j, j < 6 → C' 14 j = nI (r' j)) (h2 : ∀ j, j < 6 → M' 153 j = nI (r' j)) : HvC C' M' np nq a h r' := by
  unfold HvC at *
  rw [hC 8 (by decide), hC 11 (by decide), hC 12 (by decide), hM 119 (by decide), hM 125 (by decide), hM 126 (by decide)]
  obtain ⟨a1, a2, a3, a4, a5, a6, a7, a8, a9, b1, b2, b3, _⟩ := H
  exact ⟨a1, a2, a3, a4, a5, a6, a7, a8, a9, b1, b2, b3, h12, h1, h2⟩
/-- the rooms moved, all else kept -/
def HvS (C M C' M' : mI) (np nq : Nat) (a h : Nat → Nat) : Prop := (∀ b, b ≠ 14 → C' b = C b) ∧ (∀ b, b ≠ 153 → M' b = M b) ∧ ∃ r, HvC C' M' np nq a h r
def HvQ (C M : mI) (np nq : Nat) (a h : Nat → Nat) : (Int32 × mI) ⊕ mI → (Int32 × mI) ⊕ mI → Prop
  | .inl u, .inl v => u.1 = v.1 ∧ (∃ j, j < 6 ∧ u.1 = nI j) ∧ HvS C M u.2 v.2 np nq a h
  | .inr u, .inr v => HvS C M u v np nq a h
  | _, _ => False
theorem holder_e {C M : mI} {np nq : Nat} {a h r : Nat → Nat} (H : HvC C M np nq a h r) {i : Nat} (hi : i < np) (left : Int32) : ∃ v C' M', r0_firstHolder C (nI i) left = some (v, C') ∧ r10_playerFor M (nI i) left = some (v, M') ∧ HvS C M C' M' np nq a h := by
  have h12 := H.np12
  have h6 := H.nq6
  obtain ⟨x, y, q1, q2, q3⟩ := loop2x (fun f k (c : mI) => l0_firstHolder_2 (nI i) left f (nI k) c) (fun f k (m : mI) => l10_playerFor_2 (nI i) left f (nI k) m) (fun k c m => HvS C M c m np nq a h) (HvQ C M np nq a h) nq
    (fun c m R => ⟨.inr c, .inr m, fun f => by
      obtain ⟨_, _, r, R⟩ := R
      show l0_firstHolder_2 _ _ (f + 1) _ _ = _
      rw [l0_firstHolder_2, R.c7, if_pos (by rw [i32_le]; omega)], fun f => by
      obtain ⟨_, _, r, R⟩ := R
      show l10_playerFor_2 _ _ (f + 1) _ _ = _
      rw [l10_playerFor_2, R.m7, if_pos (by rw [i32_le]; omega)], R⟩)
    (fun k c m hk ⟨fC, fM, r, R⟩ => by
      have ha := R.a9 k (by omega)
      have hh := R.h9 i (by omega)
      have hr := R.r12 k (by omega)
      have n1 : ¬ nI nq ≤ nI k := nI_ge hk (by omega)
      have skip : (r k = 0 ∨ a k < h i) → ∃ c' m', (∀ f, nq - k ≤ f → l0_firstHolder_2 (nI i) left (f + 1) (nI k) c = l0_firstHolder_2 (nI i) left f (nI (k + 1)) c') ∧ (∀ f, nq - k ≤ f → l10_playerFor_2 (nI i) left (f + 1) (nI k) m = l10_playerFor_2 (nI i) left f (nI (k + 1)) m') ∧ HvS C M c' m' np nq a h := by
        intro hz
        refine ⟨c, m, fun f _ => ?_, fun f _ => ?_, fC, fM, r, R⟩
        · rw [l0_firstHolder_2, R.c7, if_neg n1, mLd_n (by omega) (by decide), Option.bind_some, R.cr k (by omega)]
          by_cases z : r k = 0
          · rw [if_pos (by rw [z]; decide), nI_1]
          · rw [if_neg (nI_nle (by omega) (by omega)), mLd_n (by omega) (by decide), Option.bind_some, mLd_n (by omega) (by decide), Option.bind_some, R.ca k (by omega), R.ch i (by omega), if_pos ((nI_ltI (by omega) (by omega)).mpr (hz.resolve_left z)), nI_1]
        · rw [l10_playerFor_2, R.m7, if_neg n1, mLd_n (by omega) (by decide), Option.bind_some, mLd_n (by omega) (by decide), Option.bind_some, R.ma k (by omega), R.mh i (by omega)]
          by_cases z : a k < h i
          · rw [if_pos ((nI_ltI (by omega) (by omega)).mpr z), nI_1]
          · rw [if_neg (fun q => z ((nI_ltI (by omega) (by omega)).mp q)), mLd_n (by omega) (by decide), Option.bind_some, R.mr k (by omega), if_pos (by rw [hz.resolve_right z]; rfl), nI_1]
      by_cases z1 : r k = 0
      · exact .inr (skip (.inl z1))
      by_cases z2 : a k < h i
      · exact .inr (skip (.inr z2))
      obtain ⟨t, ht⟩ : ∃ t, r k = t + 1 := ⟨r k - 1, by omega⟩
      have H2 : HvC (mW c 14 k (nI t)) (mW m 153 k (nI t)) np nq a h (fun j => if j = k then t else r j) := by
        refine HvC_room R _ (fun b hb => mW_ne _ _ _ hb) (fun b hb => mW_ne _ _ _ hb) (fun j hj => ?_) (fun j hj => ?_) (fun j hj => ?_)
        · have := R.r12 j hj
          show (if j = k then t else r j) ≤ 12
          split <;> omega
        · show (mW c 14 k (nI t)) 14 j = nI (if j = k then t else r j)
          by_cases e : j = k
          · rw [if_pos e, e, mW_at]
          · rw [if_neg e, mW_off _ _ e, R.cr j hj]
        · show (mW m 153 k (nI t)) 153 j = nI (if j = k then t else r j)
          by_cases e : j = k
          · rw [if_pos e, e, mW_at]
          · rw [if_neg e, mW_off _ _ e, R.mr j hj]
      obtain ⟨v, hv, e1, e2⟩ := most_e H2 (first := i + 1) (by omega)
      have cl : ∀ f, l0_firstHolder_2 (nI i) left (f + 1) (nI k) c = if 1 + nI v = left then some (.inl (nI k, mW c 14 k (nI t))) else l0_firstHolder_2 (nI i) left f (nI (k + 1)) (mW (mW c 14 k (nI t)) 14 k (nI (t + 1))) := fun f => by
        rw [l0_firstHolder_2, R.c7, if_neg n1, mLd_n (by omega) (by decide), Option.bind_some, R.cr k (by omega), if_neg (nI_nle (by omega) (by omega)), mLd_n (by omega) (by decide), Option.bind_some, mLd_n (by omega) (by decide), Option.bind_some, R.ca k (by omega), R.ch i (by omega), if_neg (fun q => z2 ((nI_ltI (by omega) (by omega)).mp q)), Option.bind_some, mSto_n (by omega) (by decide), Option.bind_some, ht, nI_pred, nI_1 i, e1, Option.bind_some, mLd_n (by omega) (by decide), Option.bind_some, mSto_n (by omega) (by decide), Option.bind_some, mW_at, nI_1, nI_1]
      have ml : ∀ f, l10_playerFor_2 (nI i) left (f + 1) (nI k) m = if nI v = left - 1 then some (.inl (nI k, mW m 153 k (nI t))) else l10_playerFor_2 (nI i) left f (nI (k + 1)) (mW (mW m 153 k (nI t)) 153 k (nI (t + 1))) := fun f => by
        rw [l10_playerFor_2, R.m7, if_neg n1, mLd_n (by omega) (by decide), Option.bind_some, mLd_n (by omega) (by decide), Option.bind_some, R.ma k (by omega), R.mh i (by omega), if_neg (fun q => z2 ((nI_ltI (by omega) (by omega)).mp q)), mLd_n (by omega) (by decide), Option.bind_some, R.mr k (by omega), if_neg (nI_ne0 (by omega) (by omega)), Option.bind_some, mSto_n (by omega) (by decide), Option.bind_some, ht, nI_pred, nI_1 i, e2, Option.bind_some, mLd_n (by omega) (by decide), Option.bind_some, mSto_n (by omega) (by decide), Option.bind_some, mW_at, nI_1, nI_1]
      have iff : 1 + nI v = left ↔ nI v = left - 1 := by
        constructor
        · intro q; rw [← q, Int32.add_comm, Int32.add_sub_cancel]
        · intro q; rw [q, Int32.add_comm, Int32.sub_add_cancel]
      by_cases w : 1 + nI v = left
      · refine .inl ⟨.inl (nI k, mW c 14 k (nI t)), .inl (nI k, mW m 153 k (nI t)), fun f _ => ?_, fun f _ => ?_, rfl, ⟨k, by omega, rfl⟩, fun b hb => ?_, fun b hb => ?_, _, H2⟩
        · show l0_firstHolder_2 _ _ (f + 1) _ _ = _
          rw [cl f, if_pos w]
        · show l10_playerFor_2 _ _ (f + 1) _ _ = _
          rw [ml f, if_pos (iff.mp w)]
        · show (mW c 14 k (nI t)) b = C b
          rw [mW_ne _ _ _ hb, fC b hb]
        · show (mW m 153 k (nI t)) b = M b
          rw [mW_ne _ _ _ hb, fM b hb]
      · have b1 : mW (mW c 14 k (nI t)) 14 k (nI (t + 1)) = c := by
          rw [mW_0 c, mW_mU]
          have : mU (mU (c 14) k (nI t)) k (nI (t + 1)) = c 14 := by
            funext j
            unfold mU
            by_cases e : j = k
            · rw [if_pos e, e, R.cr k (by omega), ht]
            · rw [if_neg e, if_neg e]
          rw [this, mU_self]
        have b2 : mW (mW m 153 k (nI t)) 153 k (nI (t + 1)) = m := by
          rw [mW_0 m, mW_mU]
          have : mU (mU (m 153) k (nI t)) k (nI (t + 1)) = m 153 := by
            funext j
            unfold mU
            by_cases e : j = k
            · rw [if_pos e, e, R.mr k (by omega), ht]
            · rw [if_neg e, if_neg e]
          rw [this, mU_self]
        refine .inr ⟨c, m, fun f _ => ?_, fun f _ => ?_, fC, fM, r, R⟩
        · show l0_firstHolder_2 _ _ (f + 1) _ _ = _
          rw [cl f, if_neg w, b1]
        · show l10_playerFor_2 _ _ (f + 1) _ _ = _
          rw [ml f, if_neg (fun q => w (iff.mpr q)), b2]) nq 0 FU FU C M (by omega) (FU_lt (by omega)) (FU_lt (by omega)) ⟨fun _ _ => rfl, fun _ _ => rfl, r, H⟩
  have q1 : l0_firstHolder_2 (nI i) left FU 0 C = some x := q1
  have q2 : l10_playerFor_2 (nI i) left FU 0 M = some y := q2
  unfold r0_firstHolder r10_playerFor
  rw [q1, q2, Option.bind_some, Option.bind_some]
  match x, y, q3 with
  | .inl (u, c), .inl (v, m), ⟨e, _, S⟩ =>
    have e : u = v := e
    subst e
    exact ⟨u, c, m, rfl, rfl, S⟩
  | .inr c, .inr m, S => exact ⟨-1, c, m, rfl, rfl, S⟩
theorem give_C (C : mI) (x : Int32) : ∃ C', r0_giveRoom C x = some C' ∧ (∀ b, b ≠ 14 → C' b = C b) ∧ ∀ j, j < 6 → C' 14 j = x := by
  obtain ⟨u, q1, q2⟩ := loop1 (fun f k (y : mI) => l0_giveRoom_2 x f (nI k) y) (fun k y => (∀ b, b ≠ 14 → y b = C b) ∧ ∀ j, j < k → y 14 j = x) (fun y => (∀ b, b ≠ 14 → y b = C b) ∧ ∀ j, j < 6 → y 14 j = x) 6
    (fun y hy => ⟨y, fun f => by show l0_giveRoom_2 _ (f + 1) _ _ = _; rw [l0_giveRoom_2, if_pos (by decide)], hy⟩)
    (fun k y hk hy => .inr ⟨mW y 14 k x, fun f _ => by
      show l0_giveRoom_2 _ (f + 1) _ _ = _
      rw [l0_giveRoom_2, if_neg (show ¬ (6 : Int32) ≤ nI k from nI_ge (b := 6) hk (by decide)), mSto_n hk (by decide), Option.bind_some, nI_1], fun b hb => by rw [mW_ne _ _ _ hb, hy.1 b hb], fun j hj => by
      by_cases e : j = k
      · rw [e, mW_at]
      · rw [mW_off _ _ e, hy.2 j (by omega)]⟩) 6 0 FU C (by omega) (FU_lt (by omega)) ⟨fun _ _ => rfl, fun j hj => absurd hj (Nat.not_lt_zero _)⟩
  refine ⟨u, ?_, q2⟩
  unfold r0_giveRoom
  rw [show l0_giveRoom_2 x FU 0 C = some u from q1, Option.bind_some]
theorem give_M (M : mI) (x : Int32) : ∃ M', l10_have_41 x FU 0 M = some M' ∧ (∀ b, b ≠ 153 → M' b = M b) ∧ ∀ j, j < 6 → M' 153 j = x := by
  obtain ⟨u, q1, q2⟩ := loop1 (fun f k (y : mI) => l10_have_41 x f (nI k) y) (fun k y => (∀ b, b ≠ 153 → y b = M b) ∧ ∀ j, j < k → y 153 j = x) (fun y => (∀ b, b ≠ 153 → y b = M b) ∧ ∀ j, j < 6 → y 153 j = x) 6
    (fun y hy => ⟨y, fun f => by show l10_have_41 _ (f + 1) _ _ = _; rw [l10_have_41, if_pos (by decide)], hy⟩)
    (fun k y hk hy => .inr ⟨mW y 153 k x, fun f _ => by
      show l10_have_41 _ (f + 1) _ _ = _
      rw [l10_have_41, if_neg (show ¬ (6 : Int32) ≤ nI k from nI_ge (b := 6) hk (by decide)), mSto_n hk (by decide), Option.bind_some, nI_1], fun b hb => by rw [mW_ne _ _ _ hb, hy.1 b hb], fun j hj => by
      by_cases e : j = k
      · rw [e, mW_at]
      · rw [mW_off _ _ e, hy.2 j (by omega)]⟩) 6 0 FU M (by omega) (FU_lt (by omega)) ⟨fun _ _ => rfl, fun j hj => absurd hj (Nat.not_lt_zero _)⟩
  exact ⟨u, q1, q2⟩
theorem bd_fun {f : Nat → Int32} {n b : Nat} (h : ∀ k, k < n → bd (f k) b) : ∃ g : Nat → Nat, ∀ k, k < n → g k ≤ b ∧ f k = nI (g k) :=
  ⟨fun k => if hk : k < n then Classical.choose (h k hk) else 0, fun k hk => by
    have := Classical.choose_spec (h k hk)
    show (if hk : k < n then Classical.choose (h k hk) else 0) ≤ b ∧ f k = nI (if hk : k < n then Classical.choose (h k hk) else 0)
    rw [dif_pos hk]
    exact this⟩
/-- the beginning: the rooms given -/
theorem have_0 {I M : mI} {s n : Nat} (hI : Inv I s) (hn : n ≤ 12) (hM : ∀ a, 119 ≤ a → M a = I a) : ∃ np nq a h C1 M1, np ≤ 12 ∧ I 8 6 = nI np ∧ I 119 6 = nI np ∧ r0_giveRoom I (nI n) = some C1 ∧ l10_have_41 (nI n) FU 0 (mW M 119 0 0) = some M1 ∧ HvC C1 M1 np nq a h (fun _ => n) ∧ (∀ b, b ≠ 14 → C1 b = I b) ∧ (∀ b, b ≠ 153 → M1 b = (mW M 119 0 0) b) := by
  obtain ⟨np, nq, hnp, hnq, en1, en2, en3, en4⟩ := RelC_n hI.1
  obtain ⟨_, ⟨⟨_, _, _, _, c11, c12, _⟩, _, _, _, _, w125, w126, _⟩, _⟩ := hI.1
  obtain ⟨a, ha⟩ := bd_fun w126
  obtain ⟨h, hh⟩ := bd_fun w125
  obtain ⟨C1, g1, f1, r1⟩ := give_C I (nI n)
  obtain ⟨M1, g2, f2, r2⟩ := give_M (mW M 119 0 0) (nI n)
  have m : ∀ a, a ≠ 153 → 119 < a → M1 a = I a := fun a h1 h2 => by rw [f2 a h1, mW_ne _ _ _ (by omega), hM a (by omega)]
  have m9 : ∀ k, k ≠ 0 → M1 119 k = I 119 k := fun k hk => by rw [f2 119 (by decide), mW_off _ _ hk, hM 119 (by decide)]
  refine ⟨np, nq, a, h, C1, M1, hnp, en1, en2, g1, g2, ⟨hnp, hnq, ?_, ?_, ?_, ?_, fun j hj => (ha j hj).1, fun i hi => (hh i hi).1, fun j hj => ?_, fun j hj => ?_, fun i hi => ?_, fun i hi => ?_, fun _ _ => hn, r1, r2⟩, f1, f2⟩
  · rw [f1 8 (by decide), en1]
  · rw [f1 8 (by decide), en3]
  · rw [m9 6 (by decide), en2]
  · rw [m9 7 (by decide), en4]
  · rw [f1 12 (by decide), c12 j hj, (ha j hj).2]
  · rw [m 126 (by decide) (by decide), (ha j hj).2]
  · rw [f1 11 (by decide), c11 i hi, (hh i hi).2]
  · rw [m 125 (by decide) (by decide), (hh i hi).2]
theorem have_fin {I : mI} {s : Nat} (hI : Inv I s) {A : Option (Int32 × mI)} {B : mI → Option (Int32 × mI)} (h : ∀ M, (∀ a, 119 ≤ a → M a = I a) → ∃ v C' M', A = some (v, C') ∧ B M = some (v, M') ∧ (∀ b, b ≠ 14 → C' b = I b) ∧ (∀ b, b ≠ 153 → M' b = (mW M 119 0 0) b)) : ∃ (v : Int32) (I1 : mI) (I2 : mI), A = some (v, I1) ∧ B I1 = some (v, I2) ∧ Inv I2 s := by
  obtain ⟨v, C', M', a, b, c, f, g⟩ := twice2 (I := I) (A := A) (B := B) (Q := fun M C' M' => (∀ b, b ≠ 14 → C' b = I b) ∧ (∀ b, b ≠ 153 → M' b = (mW M 119 0 0) b)) (fun M hM => by
    obtain ⟨v, C', M', a, b, f, g⟩ := h M hM
    exact ⟨v, C', M', a, b, fun a ha => f a (by omega), f, g⟩)
  refine ⟨v, C', M', a, b, Inv_frame hI hI.2.2.2.2.2.2 (fun a ha => ?_) (fun k hk => ?_)⟩
  · rw [g a (by omega), mW_ne _ _ _ (by omega), f a (by omega)]
  · rw [g 119 (by decide), mW_off _ _ (by omega), f 119 (by decide)]
theorem op_have : S_have Inv := by
  intro I s h x0 x1
  obtain ⟨np, nq, hnp, hnq, en1, en2, en3, en4⟩ := RelC_n h.1
  have bad : r9_have I x0 x1 = some (-1, I) → r10_have I x0 x1 = some (-1, mW I 119 0 0) → ∃ (v : Int32) (I1 : mI) (I2 : mI), r9_have I x0 x1 = some (v, I1) ∧ r10_have I1 x0 x1 = some (v, I2) ∧ Inv I2 s := fun e1 e2 => ex2 e1 e2 rfl (Inv_told 0 h)
  by_cases a : x0 < 1
  · refine bad ?_ ?_
    · unfold r9_have; rw [if_pos a]
    · unfold r10_have; rw [isIn_0a a, if_pos rfl]
  by_cases b : 12 < x0
  · refine bad ?_ ?_
    · unfold r9_have; rw [if_neg a, if_pos b]
    · unfold r10_have; rw [isIn_0b b, if_pos rfl]
  obtain ⟨n, hn, rfl⟩ := bd_of (x := x0) (M := 12) (n := 12) (by decide) (lt0_of (c := 1) (by decide) a) b
  by_cases z : x1 = 0
  · subst z
    refine have_fin h (fun M hM => ?_)
    obtain ⟨np', nq', ar, hd, C1, M1, hnp', e1, e2, g1, g2, H, f1, f2⟩ := have_0 h hn hM
    obtain ⟨v, hv, q1, q2⟩ := most_e H (first := 0) (by omega)
    have q1 : r0_mostHadFrom C1 0 = some (nI v) := q1
    have q2 : r10_mostHad M1 0 = some (nI v) := q2
    refine ⟨nI v, C1, M1, ?_, ?_, f1, f2⟩
    · unfold r9_have r0_mostHad
      rw [if_neg a, if_neg b, if_pos rfl, if_pos rfl, g1, Option.bind_some, q1, Option.bind_some, Option.bind_some, Option.bind_some]
    · unfold r10_have
      rw [isIn_1 a b, if_neg one_n0, if_pos rfl, g2, Option.bind_some, q2, Option.bind_some, if_pos rfl]
  by_cases c : x1 < 10
  · refine bad ?_ ?_
    · unfold r9_have; rw [if_neg a, if_neg b, if_neg z, if_pos c]
    · unfold r10_have; rw [isIn_1 a b, if_neg one_n0, if_neg z, isIn_0a c, if_pos rfl]
  obtain ⟨m, hm, rfl⟩ := nI_of (lt0_of (c := 10) (by decide) c)
  have m10 : 10 ≤ m := by
    rw [nI_ltk 10 10 rfl (by decide) hm] at c
    omega
  have e10 : nI m - 10 = nI (m - 10) := nI_sub (b := 10) m10
  have e9 : (9 : Int32) + nI np = nI (9 + np) := nI_addl rfl
  by_cases d : r0_hasPiece I (nI m - 10) = 0
  · refine bad ?_ ?_
    · unfold r9_have; rw [if_neg a, if_neg b, if_neg z, if_neg c, if_pos d]
    · have : 9 + np < m := by
        apply Classical.byContradiction
        intro hc
        rw [e10, hasPiece_y hnp en1 (k := m - 10) (by omega)] at d
        exact one_n0 d
      unfold r10_have
      rw [isIn_1 a b, if_neg one_n0, if_neg z, en2, e9, isIn_0b (nI_lt this hm), if_pos rfl]
  · obtain ⟨p, hp, ep⟩ := hasPiece_t hnp en1 d
    rw [e10, nI_eq (by omega) (by omega)] at ep
    refine have_fin h (fun M hM => ?_)
    obtain ⟨np', nq', ar, hd, C1, M1, hnp', e1, e2, g1, g2, H, f1, f2⟩ := have_0 h hn hM
    have : np' = np := (nI_eq (by omega) (by omega)).mp (by rw [← e1, en1])
    subst this
    obtain ⟨v0, hv0, q1, q2⟩ := most_e H (first := 0) (by omega)
    have q1 : r0_mostHadFrom C1 0 = some (nI v0) := q1
    have q2 : r10_mostHad M1 0 = some (nI v0) := q2
    obtain ⟨⟨x, C'⟩, ⟨y, M'⟩, w1, w2, exy, S⟩ := loop2x (fun f k (s : Int32 × Int32 × mI) => l0_holderOf_17 (nI p) f s.1 s.2.1 (nI k) s.2.2) (fun f k (s : Int32 × Int32 × mI) => l10_have_78 (nI m) f s.1 s.2.1 (nI k) s.2.2) (fun k s t => s.1 = t.1 ∧ s.2.1 = t.2.1 ∧ HvS C1 M1 s.2.2 t.2.2 np' nq' ar hd) (fun s t => s.1 = t.1 ∧ HvS C1 M1 s.2 t.2 np' nq' ar hd) (p + 1)
      (fun s t ⟨e1, e2, S⟩ => ⟨s.2, t.2, fun f => by show l0_holderOf_17 _ (f + 1) _ _ _ _ = _; rw [l0_holderOf_17, if_pos (nI_lt (by omega) (by omega))], fun f => by show l10_have_78 _ (f + 1) _ _ _ _ = _; rw [l10_have_78, e10, ep, if_pos (nI_lt (by omega) (by omega))], e2, S⟩)
      (fun k s t hk ⟨e1, e2, S⟩ => by
        obtain ⟨l, hd1, c⟩ := s
        obtain ⟨l', hd2, m2⟩ := t
        have e1 : l = l' := e1
        subst e1
        have S : HvS C1 M1 c m2 np' nq' ar hd := S
        obtain ⟨fC, fM, r, R⟩ := S
        obtain ⟨v, C2, M2, o1, o2, gC, gM, r', R'⟩ := holder_e R (i := k) (by omega) l
        refine .inr ⟨(if v = -1 then l else l - 1, v, C2), (if v = -1 then l else l - 1, v, M2), fun f _ => ?_, fun f _ => ?_, rfl, rfl, fun b hb => ?_, fun b hb => ?_, r', R'⟩
        · show l0_holderOf_17 _ (f + 1) l hd1 _ c = _
          rw [l0_holderOf_17, if_neg (nI_nlt (by omega) (by omega)), R.c6, if_neg (nI_ge (by omega) (by omega)), o1, Option.bind_some]
          by_cases vv : v = -1
          · rw [if_pos vv, if_pos vv, Option.bind_some, nI_1, Int32.sub_zero]
          · rw [if_neg vv, if_neg vv, Option.bind_some, nI_1]
        · show l10_have_78 _ (f + 1) l hd2 _ m2 = _
          rw [l10_have_78, e10, ep, if_neg (nI_nlt (by omega) (by omega)), o2, Option.bind_some]
          by_cases vv : v = -1
          · rw [if_pos vv, if_pos vv, Option.bind_some, nI_1]
          · rw [if_neg vv, if_neg vv, Option.bind_some, nI_1]
        · show C2 b = C1 b
          rw [gC b hb, fC b hb]
        · show M2 b = M1 b
          rw [gM b hb, fM b hb]) (p + 1) 0 FU FU (nI v0, -1, C1) (nI v0, -1, M1) (by omega) (FU_lt (by omega)) (FU_lt (by omega)) ⟨rfl, rfl, fun _ _ => rfl, fun _ _ => rfl, _, H⟩
    have exy : x = y := exy
    subst exy
    have S : HvS C1 M1 C' M' np' nq' ar hd := S
    obtain ⟨fC, fM, r, R⟩ := S
    have w1 : l0_holderOf_17 (nI p) FU (nI v0) (-1) 0 C1 = some (x, C') := w1
    have w2 : l10_have_78 (nI m) FU (nI v0) (-1) 0 M1 = some (x, M') := w2
    refine ⟨x, C', M', ?_, ?_, fun b hb => by rw [fC b hb, f1 b hb], fun b hb => by rw [fM b hb, f2 b hb]⟩
    · unfold r9_have r0_holderOf
      rw [if_neg a, if_neg b, if_neg z, if_neg c, if_neg d, if_neg z, g1, Option.bind_some, q1, Option.bind_some, e10, ep, w1, Option.bind_some, Option.bind_some, Option.bind_some]
    · unfold r10_have
      rw [isIn_1 a b, if_neg one_n0, if_neg z, hM 119 (by decide), en2, e9, isIn_1 c (nI_nlt (by omega) (by omega)), if_neg one_n0, g2, Option.bind_some, q2, Option.bind_some, if_neg z, w2, Option.bind_some]

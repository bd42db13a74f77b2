/-! TEXT: conditions, in step -/
def EG (C C' M M' : mI) : Prop := (∀ a, a ≠ 109 → a ≠ 114 → a ≠ 116 → C' a = C a) ∧ (∀ k, k ≠ 3 → C' 114 k = C 114 k) ∧ (∀ k, k ≠ 6 → k ≠ 7 → C' 109 k = C 109 k) ∧ (∀ a, a ≠ 119 → a ≠ 136 → a ≠ 137 → a ≠ 138 → M' a = M a) ∧ (∀ k, ¬ (16 ≤ k ∧ k ≤ 19) → ¬ (29 ≤ k ∧ k ≤ 32) → M' 119 k = M 119 k) ∧ FrM M M'
theorem EG_t {A A' A'' B B' B'' : mI} (h : EG A A' B B') (h' : EG A' A'' B' B'') : EG A A'' B B'' := by
  obtain ⟨a, b, c, d, e, f⟩ := h
  obtain ⟨a', b', c', d', e', f'⟩ := h'
  exact ⟨fun x p q r => (a' x p q r).trans (a x p q r), fun k p => (b' k p).trans (b k p), fun k p q => (c' k p q).trans (c k p q), fun x p q r w => (d' x p q r w).trans (d x p q r w), fun k p q => (e' k p q).trans (e k p q), FrM_t f f'⟩
theorem EG_r (A B : mI) : EG A A B B := ⟨fun _ _ _ _ => rfl, fun _ _ => rfl, fun _ _ _ => rfl, fun _ _ _ _ _ => rfl, fun _ _ _ => rfl, FrM_r _⟩
theorem EG_F {A A' B B' : mI} (h : EF A A' B B') : EG A A' B B' := ⟨h.1, h.2.1, fun k p _ => h.2.2.1 k p, fun a p q r _ => h.2.2.2.1 a p q r, fun k p q => h.2.2.2.2.1 k p (by omega), h.2.2.2.2.2⟩
theorem EG_C {A A' B B' : mI} (h : EG A A' B B') : FrC A A' := ⟨fun a ha => h.1 a (by omega) (by omega) (by omega), fun k h6 h7 _ _ => h.2.2.1 k h6 h7⟩
theorem EG_cm {C C' M M' : mI} (h1 : ∀ a, a ≠ 114 → a ≠ 116 → C' a = C a) (h2 : ∀ k, k ≠ 3 → C' 114 k = C 114 k) (h3 : ∀ a, a ≠ 119 → a ≠ 136 → a ≠ 137 → M' a = M a) (h4 : ∀ k, k ≠ 29 → k ≠ 32 → M' 119 k = M 119 k) (h5 : FrM M M') : EG C C' M M' := ⟨fun a _ p q => h1 a p q, h2, fun k _ _ => by rw [h1 109 (by decide) (by decide)], fun a p q r _ => h3 a p q r, fun k p q => h4 k (by omega) (by omega), h5⟩
theorem EG_7 (C M : mI) (x : Int32) : EG C (mW C 109 7 x) M M := ⟨fun a p _ _ => mW_ne _ _ _ p, fun k _ => by rw [mW_ne _ _ _ (by decide)], fun k _ q => mW_off _ _ q, fun _ _ _ _ _ => rfl, fun _ _ _ => rfl, FrM_r _⟩
theorem EG_M {C M M' : mI} (h3 : ∀ a, a ≠ 119 → a ≠ 136 → a ≠ 137 → a ≠ 138 → M' a = M a) (h4 : ∀ k, ¬ (16 ≤ k ∧ k ≤ 19) → ¬ (29 ≤ k ∧ k ≤ 32) → M' 119 k = M 119 k) (h5 : FrM M M') : EG C C M M' := ⟨fun _ _ _ _ => rfl, fun _ _ => rfl, fun _ _ _ => rfl, h3, h4, h5⟩
theorem FltL_7 {C C0 M M0 : mI} (h : FltL C C0 M M0) (x : Int32) : FltL (mW C 109 7 x) C0 M M0 := by
  obtain ⟨f, g, k, u, hu, eu⟩ := h
  refine ⟨⟨by rw [mW_off _ _ (by decide)]; exact f.1, by rw [mW_off _ _ (by decide)]; exact f.2.1, by rw [mW_off _ _ (by decide)]; exact f.2.2⟩, FrC_t g (FrC_9 (by omega)), k, u, hu, by rw [mW_ne _ _ _ (by decide)]; exact eu⟩
def Cst (C M : mI) (t : Nat → Nat) (n J : Nat) (P : Nat → Nat) (j u c o : Nat) (s : List Nat) : Prop := Syn C M t n J P j ∧ CR C M u c ∧ Spl M s ∧ C 109 7 = nI o ∧ M 119 30 = nI o
/-- on, with something put on the stack -/
theorem wait_s {C M : mI} {t : Nat → Nat} {n J : Nat} {P : Nat → Nat} {j u c o : Nat} {s : List Nat} (h : Cst C M t n J P j u c o s) (hl : s.length < 40) {x : Nat} (hx : x < 16) {y : Int32} (hy : y = nI x) (hne : ¬ C 111 j = 129) : ∃ C1 Mb Mc, r4_step C = some C1 ∧ r10_waits0 M y = some Mb ∧ r10_reads Mb = some Mc ∧ Cst C1 Mc t n J P (j + 1) u c o (x :: s) ∧ C1 116 = C 116 ∧ EG C C1 M Mc := by
  obtain ⟨h1, h2, h3, h4, h5⟩ := h
  obtain ⟨Mb, w1, w2, w3, w4, w5⟩ := waits_q h3 hl hx hy
  have hb : Syn C Mb t n J P j := Syn_M h1 (w4 15 (by decide)) (w3 129 (by decide) (by decide)) (w3 130 (by decide) (by decide)) (w4 16 (by decide)) (w4 17 (by decide)) (w4 18 (by decide)) (w4 19 (by decide))
  obtain ⟨C1, Mc, s1, s2, s3, s4, s5⟩ := step_j hb hne
  have Rb : CR C Mb u c := CR_M h2 (w4 29 (by decide)) (w3 136 (by decide) (by decide)) (w3 137 (by decide) (by decide))
  refine ⟨C1, Mb, Mc, s1, w1, s2, ⟨s3, CR_fs Rb s4 s5, Spl_M w2 (s5.2 32 (by omega)) (s5.1 138 (by decide)), by rw [s4.2 7 (by decide), h4], by rw [s5.2 30 (by omega), w4 30 (by decide), h5]⟩, s4.1 116 (by decide), EG_t (EG_M (fun a p _ _ q => w3 a p q) (fun k p q => w4 k (by omega)) w5) (EG_F (EF_step s4 s5))⟩
/-- on, one level deeper -/
theorem open_s {C M : mI} {t : Nat → Nat} {n J : Nat} {P : Nat → Nat} {j u c o : Nat} {s : List Nat} (h : Cst C M t n J P j u c o s) (hl : s.length < 40) {x : Nat} (hx : x < 16) {y : Int32} (hy : y = nI x) (hne : ¬ C 111 j = 129) : ∃ C1 Mb Mc, r4_step (mW C 109 7 (C 109 7 + 1)) = some C1 ∧ r10_waits0 (mW M 119 30 (M 119 30 + 1)) y = some Mb ∧ r10_reads Mb = some Mc ∧ Cst C1 Mc t n J P (j + 1) u c (o + 1) (x :: s) ∧ C1 116 = C 116 ∧ EG C C1 M Mc := by
  obtain ⟨h1, h2, h3, h4, h5⟩ := h
  have hc : Cst (mW C 109 7 (C 109 7 + 1)) (mW M 119 30 (M 119 30 + 1)) t n J P j u c (o + 1) s := by
    refine ⟨Syn_M (Syn_C h1 (mW_ne _ _ _ (by decide)) (mW_ne _ _ _ (by decide)) (mW_ne _ _ _ (by decide)) (mW_off _ _ (by decide)) (mW_off _ _ (by decide))) (mW_off _ _ (by decide)) (mW_ne _ _ _ (by decide)) (mW_ne _ _ _ (by decide)) (mW_off _ _ (by decide)) (mW_off _ _ (by decide)) (mW_off _ _ (by decide)) (mW_off _ _ (by decide)), CR_M (CR_C h2 (mW_ne _ _ _ (by decide)) (mW_ne _ _ _ (by decide))) (mW_off _ _ (by decide)) (mW_ne _ _ _ (by decide)) (mW_ne _ _ _ (by decide)), Spl_M h3 (mW_off _ _ (by decide)) (mW_ne _ _ _ (by decide)), ?_, ?_⟩
    · rw [mW_at, h4, nI_1]
    · rw [mW_at, h5, nI_1]
  obtain ⟨C1, Mb, Mc, a1, a2, a3, a4, a5, a6⟩ := wait_s hc hl hx hy (by rw [mW_ne _ _ _ (by decide)]; exact hne)
  refine ⟨C1, Mb, Mc, a1, a2, a3, a4, by rw [a5, mW_ne _ _ _ (by decide)], EG_t (EG_t (EG_7 C M _) (EG_M (fun a p _ _ _ => mW_ne _ _ _ p) (fun k p q => mW_off _ _ (by omega)) (FrM_9 (by omega)))) a6⟩
/-! the reference's loop -/
def aM (f : Nat) (y1 y2 : Int32) (M : mI) : Option (Int32 × mI) := (l10_readAny_9 f y1 y2 M).bind fun z0 => match z0 with | .inl rz0 => some rz0 | .inr wz0 => (r10_errs wz0 1).bind fun z1 => some (z1.1, z1.2)
def aN (f : Nat) (b : Int32) (M : mI) : Option (Int32 × mI) := if b = 0 then some (0, M) else if r10_isSign M 41 = 0 then (r10_errs M 1).bind fun z1 => some (z1.1, z1.2) else (r10_settles0 (mW (mW M 119 32 (M 119 32 - 1)) 119 30 (M 119 30 - 1)) 9).bind fun z2 => (r10_reads z2).bind fun z3 => aM f (b - 1) 0 z3
theorem ite_bind {α β : Type} {c : Prop} [Decidable c] (a b : Option α) (g : α → Option β) : (if c then a else b).bind g = if c then a.bind g else b.bind g := by split <;> rfl
theorem aM_and {M : mI} (h : r10_isWord M 5 = 1) (f : Nat) (b : Int32) : aM (f + 1) b 0 M = (r10_settles0 M 10).bind fun z8 => (r10_waits0 z8 10).bind fun z9 => (r10_reads z9).bind fun z10 => aM f b 1 z10 := by
  unfold aM
  rw [l10_readAny_9]
  simp (decide := true) only [h, reduceIte, Option.bind_assoc]
theorem aM_or {M : mI} (h5 : r10_isWord M 5 = 0) (h : r10_isWord M 4 = 1) (f : Nat) (b : Int32) : aM (f + 1) b 0 M = (r10_settles0 M 10).bind fun z4 => (r10_settles0 z4 11).bind fun z5 => (r10_waits0 z5 11).bind fun z6 => (r10_reads z6).bind fun z7 => aM f b 1 z7 := by
  unfold aM
  rw [l10_readAny_9]
  simp (decide := true) only [h5, h, reduceIte, Option.bind_assoc]
theorem aM_end {M : mI} (h5 : r10_isWord M 5 = 0) (h : r10_isWord M 4 = 0) (f : Nat) (b : Int32) : aM (f + 1) b 0 M = (r10_settles0 M 10).bind fun z0 => (r10_settles0 z0 11).bind fun z1 => aN f b z1 := by
  unfold aN aM
  rw [l10_readAny_9]
  simp (decide := true) only [h5, h, reduceIte, Option.bind_assoc, ite_bind, Option.bind_some]
theorem aM_cmp {M : mI} (h5 : r10_isWord M 6 = 0) (h : r10_isSign M 40 = 0) (f : Nat) (b : Int32) : aM (f + 1) b 1 M = (r10_readCompared M).bind fun z16 => if z16.1 = -1 then some (-1, z16.2) else (r10_settles0 z16.2 9).bind fun z17 => aM f b 0 z17 := by
  unfold aM
  rw [l10_readAny_9]
  simp (decide := true) only [h5, h, reduceIte, Option.bind_assoc, ite_bind, Option.bind_some]
theorem aM_not {M : mI} (h : r10_isWord M 6 = 1) (f : Nat) (b : Int32) : aM (f + 1) b 1 M = if M 119 30 = 8 then (r10_errs M 3).bind fun z => some (z.1, z.2) else (r10_waits0 (mW M 119 30 (M 119 30 + 1)) 9).bind fun z13 => (r10_reads z13).bind fun z14 => aM f b 1 z14 := by
  unfold aM
  rw [l10_readAny_9]
  simp (decide := true) only [h, reduceIte, Option.bind_assoc, ite_bind, Option.bind_some]
theorem aM_br {M : mI} (h5 : r10_isWord M 6 = 0) (h : r10_isSign M 40 = 1) (f : Nat) (b : Int32) : aM (f + 1) b 1 M = if M 119 30 = 8 then (r10_errs M 3).bind fun z => some (z.1, z.2) else (r10_waits0 (mW M 119 30 (M 119 30 + 1)) 12).bind fun z13 => (r10_reads z13).bind fun z14 => aM f (b + 1) 1 z14 := by
  unfold aM
  rw [l10_readAny_9]
  simp (decide := true) only [h5, h, reduceIte, Option.bind_assoc, ite_bind, Option.bind_some]
theorem set_of {M M' : mI} {k : Int32} {m : Nat} (h : ∀ f, m < f → l10_settles0_0 k f M = some M') (hm : m < 500) : r10_settles0 M k = some M' := by
  have fu := FU_lt (n := 500) (by omega)
  unfold r10_settles0
  rw [h FU (by omega), Option.bind_some]
theorem set_no {M : mI} {s : List Nat} (h : Spl M s) (hl : s.length ≤ 40) {k : Nat} (hk : k < 16) (hne : hd0 s ≠ k) {y : Int32} (hy : y = nI k) : r10_settles0 M y = some M := set_of (m := 0) (fun f hf => by
  obtain ⟨f, rfl⟩ : ∃ g, f = g + 1 := ⟨f - 1, by omega⟩
  exact settle_no h hl hk hne hy f) (by omega)
/-! what a single and a condition come to -/
def SiO (C M : mI) (t : Nat → Nat) (n J : Nat) (P : Nat → Nat) (j u p o u0 : Nat) (s : List Nat) (L0 L : List Bool) (A : Option (Int32 × mI)) (b : Int32) : Prop := (∃ C' M1 M' j' u' c' k, A = some (1, C') ∧ (∀ f, aM (f + k) b 1 M = aM f b 0 M') ∧ (∀ f, s.length < f → l10_settles0_0 9 f M1 = some M') ∧ Cst C' M1 t n J P j' u' c' o s ∧ c' + p ≤ j' ∧ j + k ≤ j' ∧ 0 < k ∧ Ty (C' 116) u0 u' L0 (true :: L) ∧ u ≤ u' ∧ (∀ i, i < u → C' 116 i = C 116 i) ∧ EG C C' M M1) ∨ (∃ C' M' k, A = some (0, C') ∧ (∀ f, aM (f + k) b 1 M = some (-1, M')) ∧ k + j ≤ J + 1 ∧ FltL C' C M' M)
def CoO (C M : mI) (t : Nat → Nat) (n J : Nat) (P : Nat → Nat) (j u p o u0 : Nat) (s : List Nat) (L0 L : List Bool) (A : Option (Int32 × mI)) (b : Int32) : Prop := (∃ C' M' j' u' c' k, A = some (1, C') ∧ (∀ f, aM (f + k) b 1 M = aN f b M') ∧ Cst C' M' t n J P j' u' c' o s ∧ c' + p ≤ j' ∧ j + k ≤ j' + 1 ∧ j < j' ∧ Ty (C' 116) u0 u' L0 (true :: L) ∧ u ≤ u' ∧ (∀ i, i < u → C' 116 i = C 116 i) ∧ EG C C' M M') ∨ (∃ C' M' k, A = some (0, C') ∧ (∀ f, aM (f + k) b 1 M = some (-1, M')) ∧ k + j ≤ J + 1 ∧ FltL C' C M' M)
def SiS (t : Nat → Nat) (n J : Nat) (P : Nat → Nat) (o u0 : Nat) (L0 : List Bool) (rc : mI → Int32 → Option (Int32 × mI)) : Prop := ∀ (C M : mI) (j u c p b : Nat) (s : List Nat) (L : List Bool), L.length ≤ 2 * o + 2 → s.length ≤ 3 * o + 2 → nT s ≤ p → b ≤ o → Cst C M t n J P j u c o s → c + p ≤ j → Ty (C 116) u0 u L0 L → SiO C M t n J P j u p o u0 s L0 L (r4_single rc C) (nI b)
/-! the class's loop -/
def wJ : Bool → Int32
  | true => 1
  | false => 0
def wS : Bool → List Nat → List Nat
  | true, s => 11 :: s
  | false, s => s
def wU : Bool → List Bool → List Bool
  | true, L => true :: true :: L
  | false, L => true :: L
def wQ : Bool → Nat
  | true => 1
  | false => 0
def cC (rc : mI → Int32 → Option (Int32 × mI)) (f : Nat) (w y2 : Int32) (y3 : Nat) (C : mI) : Option (Int32 × mI) := (l4_condition_9 rc f w y2 (nI y3) C).bind fun z1 => (if z1.1 = 0 then some z1.2.2 else (r6_emit_114 z1.2.2 11 0).bind fun z3 => some z3 : Option mI).bind fun z2 => some (z1.2.1 &&& 1, z2)
theorem cl_0 (rc : mI → Int32 → Option (Int32 × mI)) (f : Nat) (w : Int32) (y3 : Nat) (C : mI) : l4_condition_9 rc (f + 1) w 0 (nI y3) C = some (w, 0, C) := by
  rw [l4_condition_9, if_pos (show (0 : Int32) = 0 from rfl), ite_self]
theorem cl_and {C : mI} (h : r4_kind C = some 5) (rc : mI → Int32 → Option (Int32 × mI)) (f : Nat) (w : Bool) {y3 : Nat} (hy : y3 < 400) : l4_condition_9 rc (f + 1) (wJ w) 1 (nI y3) C = (r4_step C).bind fun z6 => (r4_single rc z6).bind fun z7 => (r6_emit_114 z7.2 10 0).bind fun z9 => l4_condition_9 rc f (wJ w) z7.1 (nI (y3 + 1)) z9 := by
  rw [l4_condition_9, if_neg (show ¬ (400 : Int32) ≤ nI y3 from nI_ge (b := 400) hy (by decide)), nI_1]
  cases w <;> simp (decide := true) only [h, wJ, reduceIte, Option.bind_some, Option.bind_assoc]
theorem cl_or {C : mI} (h : r4_kind C = some 4) (rc : mI → Int32 → Option (Int32 × mI)) (f : Nat) (w : Bool) {y3 : Nat} (hy : y3 < 400) : l4_condition_9 rc (f + 1) (wJ w) 1 (nI y3) C = (if wJ w = 0 then some C else (r6_emit_114 C 11 0).bind fun z3 => some z3 : Option mI).bind fun z13 => (r4_step z13).bind fun z6 => (r4_single rc z6).bind fun z7 => l4_condition_9 rc f 1 z7.1 (nI (y3 + 1)) z7.2 := by
  rw [l4_condition_9, if_neg (show ¬ (400 : Int32) ≤ nI y3 from nI_ge (b := 400) hy (by decide)), nI_1]
  cases w <;> simp (decide := true) only [h, wJ, reduceIte, Option.bind_some, Option.bind_assoc]
theorem cl_end {C : mI} {κ : Int32} (h : r4_kind C = some κ) (h5 : ¬ κ = 5) (h4 : ¬ κ = 4) (rc : mI → Int32 → Option (Int32 × mI)) (f : Nat) (w : Int32) (y3 : Nat) : l4_condition_9 rc (f + 1) w 1 (nI y3) C = some (w, 1, C) := by
  rw [l4_condition_9, if_neg one_n0, h, Option.bind_some, if_neg h5, Option.bind_some, if_neg h4, ite_self]
theorem cC_0 {C C0 M M0 : mI} (h : FltL C C0 M M0) (rc : mI → Int32 → Option (Int32 × mI)) (w : Int32) (y3 : Nat) : ∃ C', (∀ f, cC rc (f + 1) w 0 y3 C = some (0, C')) ∧ FltL C' C0 M M0 := by
  by_cases z : w = 0
  · refine ⟨C, fun f => ?_, h⟩
    unfold cC
    rw [cl_0, Option.bind_some]
    dsimp only
    rw [if_pos z, Option.bind_some, and1.2]
  · obtain ⟨C', e1, e2⟩ := emit_F h 11 0
    refine ⟨C', fun f => ?_, e2⟩
    unfold cC
    rw [cl_0, Option.bind_some]
    dsimp only
    rw [if_neg z, e1, Option.bind_some, Option.bind_some, and1.2]
/-- what 'or' leaves waiting is done -/
theorem flush_s {C M : mI} {t : Nat → Nat} {n J : Nat} {P : Nat → Nat} {j u c p o u0 : Nat} {s : List Nat} {L0 L : List Bool} (w : Bool) (h : Cst C M t n J P j u c o (wS w s)) (hl : s.length < 40) (hs : hd0 s ≠ 11) (hc : c + wQ w + p ≤ j) (hT : Ty (C 116) u0 u L0 (wU w L)) : ∃ Ca Ma ua ca, ((if wJ w = 0 then some C else (r6_emit_114 C 11 0).bind fun z3 => some z3 : Option mI) = some Ca) ∧ r10_settles0 M 11 = some Ma ∧ Cst Ca Ma t n J P j ua ca o s ∧ ca + p ≤ j ∧ Ty (Ca 116) u0 ua L0 (true :: L) ∧ u ≤ ua ∧ (∀ i, i < u → Ca 116 i = C 116 i) ∧ Ca 111 = C 111 ∧ EG C Ca M Ma := by
  obtain ⟨h1, h2, h3, h4, h5⟩ := h
  have j4 : j ≤ 400 := by have := h1.1.1; have := h1.2.2.1; omega
  cases w with
  | false =>
    have hc : c + p ≤ j := hc
    exact ⟨C, M, u, c, if_pos rfl, set_no h3 (by show s.length ≤ 40; omega) (k := 11) (by decide) hs rfl, ⟨h1, h2, h3, h4, h5⟩, hc, hT, Nat.le_refl _, fun _ _ => rfl, rfl, EG_r _ _⟩
  | true =>
    have hc : c + 1 + p ≤ j := hc
    obtain ⟨Ca, Ma, a1, a2, a3, a4, a5, a6, a7, a8, a9, a10⟩ := settle_1 (x := 11) (s := s) h3 hl h2 (by omega) (.inr rfl) hs (y := 11) rfl
    refine ⟨Ca, Ma, u + 1, c + 1, ?_, set_of (m := 1) (fun f hf => a2 f (by omega)) (by omega), ⟨Syn_M (Syn_C h1 (a6 111 (by decide) (by decide)) (a6 112 (by decide) (by decide)) (a6 113 (by decide) (by decide)) (by rw [a6 109 (by decide) (by decide)]) (by rw [a6 109 (by decide) (by decide)])) (a9 15 (by decide) (by decide)) (a8 129 (by decide) (by decide) (by decide)) (a8 130 (by decide) (by decide) (by decide)) (a9 16 (by decide) (by decide)) (a9 17 (by decide) (by decide)) (a9 18 (by decide) (by decide)) (a9 19 (by decide) (by decide)), a3, a4, by rw [a6 109 (by decide) (by decide), h4], by rw [a9 30 (by decide) (by decide), h5]⟩, hc, ?_, by omega, fun i hi => by rw [a5, mU_ne _ _ (by omega)], a6 111 (by decide) (by decide), EG_cm a6 a7 a8 a9 a10⟩
    · rw [if_neg (show ¬ wJ true = 0 by decide), a1, Option.bind_some]
    · rw [a5]; exact Ty_emit hT (cTy_jn (.inr rfl))
theorem Cst_p {C C' M M' : mI} {t : Nat → Nat} {n J : Nat} {P : Nat → Nat} {j u c u' c' o : Nat} {s s' : List Nat} (h : Cst C M t n J P j u c o s) (R : CR C' M' u' c') (S : Spl M' s') (a6 : ∀ a, a ≠ 114 → a ≠ 116 → C' a = C a) (a8 : ∀ a, a ≠ 119 → a ≠ 136 → a ≠ 137 → M' a = M a) (a9 : ∀ k, k ≠ 29 → k ≠ 32 → M' 119 k = M 119 k) : Cst C' M' t n J P j u' c' o s' := ⟨Syn_M (Syn_C h.1 (a6 111 (by decide) (by decide)) (a6 112 (by decide) (by decide)) (a6 113 (by decide) (by decide)) (by rw [a6 109 (by decide) (by decide)]) (by rw [a6 109 (by decide) (by decide)])) (a9 15 (by decide) (by decide)) (a8 129 (by decide) (by decide) (by decide)) (a8 130 (by decide) (by decide) (by decide)) (a9 16 (by decide) (by decide)) (a9 17 (by decide) (by decide)) (a9 18 (by decide) (by decide)) (a9 19 (by decide) (by decide)), R, S, by rw [a6 109 (by decide) (by decide), h.2.2.2.1], by rw [a9 30 (by decide) (by decide), h.2.2.2.2]⟩
theorem wd_one {C M : mI} {t : Nat → Nat} {n J : Nat} {P : Nat → Nat} {j : Nat} (h : Syn C M t n J P j) {w : Nat} (hw : w < 27) {x : Int32} (hx : x = nI w) : (C 111 j = x → r10_isWord M x = 1) ∧ (¬ C 111 j = x → r10_isWord M x = 0) := by
  subst hx
  rw [word_e h hw]
  exact ⟨fun q => if_pos q, fun q => if_neg q⟩
theorem wd_M {M M' : mI} (h18 : M' 119 18 = M 119 18) (h19 : M' 119 19 = M 119 19) (x : Int32) : r10_isWord M' x = r10_isWord M x := by
  unfold r10_isWord
  rw [h18, h19]
def CgO (rc : mI → Int32 → Option (Int32 × mI)) (C M0 M1 : mI) (t : Nat → Nat) (n J : Nat) (P : Nat → Nat) (j u p o u0 b : Nat) (s : List Nat) (L0 L : List Bool) (w : Bool) (y3 kk : Nat) : Prop := (∃ C' M' j' u' c' k, (∀ f, kk < f → cC rc f (wJ w) 1 y3 C = some (1, C')) ∧ (∀ f, aM (f + k) (nI b) 0 M0 = aN f (nI b) M') ∧ Cst C' M' t n J P j' u' c' o s ∧ c' + p ≤ j' ∧ j + k ≤ j' + 1 ∧ j ≤ j' ∧ Ty (C' 116) u0 u' L0 (true :: L) ∧ u ≤ u' ∧ (∀ i, i < u → C' 116 i = C 116 i) ∧ EG C C' M1 M') ∨ (∃ C' M' k, (∀ f, kk < f → cC rc f (wJ w) 1 y3 C = some (0, C')) ∧ (∀ f, aM (f + k) (nI b) 0 M0 = some (-1, M')) ∧ k + j ≤ J + 1 ∧ FltL C' C M' M1)
theorem cond_end {rc : mI → Int32 → Option (Int32 × mI)} {C M0 M1 : mI} {t : Nat → Nat} {n J : Nat} {P : Nat → Nat} {j u c p o u0 b : Nat} {s : List Nat} {L0 L : List Bool} {w : Bool} {y3 : Nat} (kk : Nat) (ho : o ≤ 8) (hl : s.length ≤ 3 * o) (hs : hd0 s = 0 ∨ hd0 s = 12) (hset : ∀ f, 1 < f → l10_settles0_0 10 f M0 = some M1) (h18 : M0 119 18 = M1 119 18) (h19 : M0 119 19 = M1 119 19) (h : Cst C M1 t n J P j u c o (wS w s)) (hc : c + wQ w + p ≤ j) (hT : Ty (C 116) u0 u L0 (wU w L)) (k5 : ¬ C 111 j = 5) (k4 : ¬ C 111 j = 4) : CgO rc C M0 M1 t n J P j u p o u0 b s L0 L w y3 kk := by
  obtain ⟨Ca, Ma, ua, ca, f1, f2, f3, f4, f5, f6, f7, f8, f9⟩ := flush_s w h (by omega) (by omega) hc hT
  refine .inl ⟨Ca, Ma, j, ua, ca, 1, fun f hf => ?_, fun f => ?_, f3, f4, Nat.le_refl _, Nat.le_refl _, f5, f6, f7, f9⟩
  · obtain ⟨f, rfl⟩ : ∃ g, f = g + 1 := ⟨f - 1, by omega⟩
    unfold cC
    rw [cl_end (kind_e h.1) k5 k4, Option.bind_some]
    dsimp only
    rw [f1, Option.bind_some, and1.1]
  · rw [aM_end (by rw [wd_M h18 h19]; exact (wd_one h.1 (w := 5) (by decide) rfl).2 k5) (by rw [wd_M h18 h19]; exact (wd_one h.1 (w := 4) (by decide) rfl).2 k4), set_of hset (by omega), Option.bind_some, f2, Option.bind_some]
theorem cond_go {rc : mI → Int32 → Option (Int32 × mI)} {t : Nat → Nat} {n J : Nat} {P : Nat → Nat} {p o u0 b : Nat} {s : List Nat} {L0 L : List Bool} (HS : SiS t n J P o u0 L0 rc) (ho : o ≤ 8) (hb : b ≤ o) (hL : L.length ≤ 2 * o) (hl : s.length ≤ 3 * o) (hs : hd0 s = 0 ∨ hd0 s = 12) : ∀ kk, kk ≤ 400 → ∀ j C M0 M1 u c (w : Bool) (y3 : Nat), J - j ≤ kk → (∀ f, 1 < f → l10_settles0_0 10 f M0 = some M1) → M0 119 18 = M1 119 18 → M0 119 19 = M1 119 19 → Cst C M1 t n J P j u c o (wS w s) → c + wQ w + p ≤ j → y3 ≤ j → Ty (C 116) u0 u L0 (wU w L) → CgO rc C M0 M1 t n J P j u p o u0 b s L0 L w y3 kk := by
  intro kk
  induction kk with
  | zero =>
    intro _ j C M0 M1 u c w y3 hk hset h18 h19 h hc hy hT
    have ej : j = J := by have := h.1.2.2.1; omega
    have e129 : C 111 j = 129 := by rw [ej]; exact h.1.1.2.2.1
    exact cond_end 0 ho hl hs hset h18 h19 h hc hT (by rw [e129]; decide) (by rw [e129]; decide)
  | succ kk ih =>
    intro hk4 j C M0 M1 u c w y3 hk hset h18 h19 h hc hy hT
    have wl : (wS w s).length ≤ 3 * o + 1 := by
      cases w with
      | false => show s.length ≤ 3 * o + 1; omega
      | true => show s.length + 1 ≤ 3 * o + 1; omega
    have wu : (wU w L).length ≤ 2 * o + 2 := by
      cases w with
      | false => show L.length + 1 ≤ 2 * o + 2; omega
      | true => show L.length + 1 + 1 ≤ 2 * o + 2; omega
    have wq : wQ w ≤ 1 := by cases w <;> decide
    have wh : hd0 (wS w s) ≠ 10 := by
      cases w with
      | false => show hd0 s ≠ 10; omega
      | true => show (11 : Nat) ≠ 10; decide
    by_cases k5 : C 111 j = 5
    · have ne129 : ¬ C 111 j = 129 := by rw [k5]; decide
      have j4 := Syn_j h.1 ne129
      have k5' : r4_kind C = some 5 := by rw [kind_e h.1, k5]
      obtain ⟨C1, Mb, Mc, a1, a2, a3, a4, a5, a6⟩ := wait_s h (by omega) (x := 10) (by decide) (y := 10) rfl ne129
      have rf : ∀ f, aM (f + 1) (nI b) 0 M0 = aM f (nI b) 1 Mc := fun f => by
        rw [aM_and (by rw [wd_M h18 h19]; exact (wd_one h.1 (w := 5) (by decide) rfl).1 k5), set_of hset (by omega), Option.bind_some, a2, Option.bind_some, a3, Option.bind_some]
      have cl : ∀ f, cC rc (f + 1) (wJ w) 1 y3 C = (r4_single rc C1).bind fun z7 => (r6_emit_114 z7.2 10 0).bind fun z9 => cC rc f (wJ w) z7.1 (y3 + 1) z9 := fun f => by
        unfold cC
        rw [cl_and k5' rc f w (by omega), a1, Option.bind_some]
        simp only [Option.bind_assoc]
      rcases HS C1 Mc (j + 1) u c (p + wQ w + 1) b (10 :: wS w s) (wU w L) wu (by show (wS w s).length + 1 ≤ _; omega) (Nat.zero_le _) hb a4 (by omega) (by rw [a5]; exact hT) with ⟨C2, Ms, M', j2, u2, c2, k, b1, b2, b3, b4, b5, b6, b6', b7, b8, b9, b10⟩ | ⟨C2, M', k, b1, b2, b3, b4⟩
      · have ls : (10 :: wS w s).length = (wS w s).length + 1 := rfl
        have e9 : M' = Ms := by
          have x1 := b3 ((wS w s).length + 1 + 1) (by omega)
          rw [settle_no b4.2.2.1 (by omega) (k := 9) (by decide) (show (10 : Nat) ≠ 9 by decide) (y := 9) rfl] at x1
          exact (Option.some.inj x1).symm
        have J4 := b4.1.1.1
        have jJ := b4.1.2.2.1
        obtain ⟨C3, Me, d1, d2, d3, d4, d5, d6, d7, d8, d9, d10⟩ := settle_1 b4.2.2.1 (by omega) b4.2.1 (by omega) (.inl rfl) wh (y := 10) rfl
        have h3 : Cst C3 Me t n J P j2 (u2 + 1) (c2 + 1) o (wS w s) := Cst_p b4 d3 d4 d6 d8 d9
        have T3 : Ty (C3 116) u0 (u2 + 1) L0 (wU w L) := by
          rw [d5]
          cases w with
          | false => exact Ty_emit b7 (cTy_jn (.inl rfl))
          | true => exact Ty_emit b7 (cTy_jn (.inl rfl))
        have E3 : EG C C3 M1 Me := EG_t a6 (EG_t b10 (EG_cm d6 d7 d8 d9 d10))
        have p3 : ∀ i, i < u → C3 116 i = C 116 i := fun i hi => by rw [d5, mU_ne _ _ (by omega), b9 i hi, a5]
        rcases ih (by omega) j2 C3 Ms Me (u2 + 1) (c2 + 1) w (y3 + 1) (by omega) (fun f hf => d2 f (by omega)) (by rw [d9 18 (by decide) (by decide)]) (by rw [d9 19 (by decide) (by decide)]) h3 (by omega) (by omega) T3 with ⟨C', Mx, j', u', c', kI, r1, r2, r3, r4, r5, r6, r7, r8, r9, r10⟩ | ⟨C', Mx, kI, r1, r2, r3, r4⟩
        · refine .inl ⟨C', Mx, j', u', c', kI + k + 1, fun f hf => ?_, fun f => ?_, r3, r4, by omega, by omega, r7, by omega, fun i hi => by rw [r9 i (by omega), p3 i hi], EG_t E3 r10⟩
          · obtain ⟨f, rfl⟩ : ∃ g, f = g + 1 := ⟨f - 1, by omega⟩
            rw [cl, b1, Option.bind_some]
            dsimp only
            rw [d1, Option.bind_some, r1 f (by omega)]
          · show aM (f + (kI + k) + 1) _ _ _ = _
            rw [rf, ← Nat.add_assoc, b2, e9, r2]
        · refine .inr ⟨C', Mx, kI + k + 1, fun f hf => ?_, fun f => ?_, by omega, FltL_t r4 (EG_C E3) E3.2.2.2.2.2⟩
          · obtain ⟨f, rfl⟩ : ∃ g, f = g + 1 := ⟨f - 1, by omega⟩
            rw [cl, b1, Option.bind_some]
            dsimp only
            rw [d1, Option.bind_some, r1 f (by omega)]
          · show aM (f + (kI + k) + 1) _ _ _ = _
            rw [rf, ← Nat.add_assoc, b2, e9, r2]
      · obtain ⟨C3, e1, e2⟩ := emit_F b4 10 0
        obtain ⟨C4, e3, e4⟩ := cC_0 e2 rc (wJ w) (y3 + 1)
        refine .inr ⟨C4, M', k + 1, fun f hf => ?_, fun f => ?_, by omega, FltL_t e4 (EG_C a6) a6.2.2.2.2.2⟩
        · obtain ⟨f, rfl⟩ : ∃ g, f = g + 1 + 1 := ⟨f - 2, by omega⟩
          rw [cl, b1, Option.bind_some]
          dsimp only
          rw [e1, Option.bind_some, e3]
        · show aM (f + k + 1) _ _ _ = _
          rw [rf, b2]
    · by_cases k4 : C 111 j = 4
      · have ne129 : ¬ C 111 j = 129 := by rw [k4]; decide
        have j4 := Syn_j h.1 ne129
        have k4' : r4_kind C = some 4 := by rw [kind_e h.1, k4]
        obtain ⟨Ca, Ma, ua, ca, f1, f2, f3, f4, f5, f6, f7, f8, f9⟩ := flush_s w h (by omega) (by omega) hc hT
        obtain ⟨C1, Mb, Mc, a1, a2, a3, a4, a5, a6⟩ := wait_s f3 (by omega) (x := 11) (by decide) (y := 11) rfl (by rw [f8]; exact ne129)
        have E1 : EG C C1 M1 Mc := EG_t f9 a6
        have rf : ∀ f, aM (f + 1) (nI b) 0 M0 = aM f (nI b) 1 Mc := fun f => by
          rw [aM_or (by rw [wd_M h18 h19]; exact (wd_one h.1 (w := 5) (by decide) rfl).2 k5) (by rw [wd_M h18 h19]; exact (wd_one h.1 (w := 4) (by decide) rfl).1 k4), set_of hset (by omega), Option.bind_some, f2, Option.bind_some, a2, Option.bind_some, a3, Option.bind_some]
        have cl : ∀ f, cC rc (f + 1) (wJ w) 1 y3 C = (r4_single rc C1).bind fun z7 => cC rc f 1 z7.1 (y3 + 1) z7.2 := fun f => by
          unfold cC
          rw [cl_or k4' rc f w (by omega), f1, Option.bind_some, a1, Option.bind_some]
          simp only [Option.bind_assoc]
        rcases HS C1 Mc (j + 1) ua ca (p + 1) b (11 :: s) (true :: L) (by show L.length + 1 ≤ _; omega) (by show s.length + 1 ≤ _; omega) (Nat.zero_le _) hb a4 (by omega) (by rw [a5]; exact f5) with ⟨C2, Ms, M', j2, u2, c2, k, b1, b2, b3, b4, b5, b6, b6', b7, b8, b9, b10⟩ | ⟨C2, M', k, b1, b2, b3, b4⟩
        · have ls : (11 :: s).length = s.length + 1 := rfl
          have e9 : M' = Ms := by
            have x1 := b3 (s.length + 1 + 1) (by omega)
            rw [settle_no b4.2.2.1 (by omega) (k := 9) (by decide) (show (11 : Nat) ≠ 9 by decide) (y := 9) rfl] at x1
            exact (Option.some.inj x1).symm
          have E3 : EG C C2 M1 Ms := EG_t E1 b10
          have p3 : ∀ i, i < u → C2 116 i = C 116 i := fun i hi => by rw [b9 i (by omega), a5, f7 i hi]
          rcases ih (by omega) j2 C2 Ms Ms u2 c2 true (y3 + 1) (by omega) (fun f hf => by
            obtain ⟨f, rfl⟩ : ∃ g, f = g + 1 := ⟨f - 1, by omega⟩
            exact settle_no b4.2.2.1 (by omega) (k := 10) (by decide) (show (11 : Nat) ≠ 10 by decide) rfl f) rfl rfl b4 (by show c2 + 1 + p ≤ j2; omega) (by omega) b7 with ⟨C', Mx, j', u', c', kI, r1, r2, r3, r4, r5, r6, r7, r8, r9, r10⟩ | ⟨C', Mx, kI, r1, r2, r3, r4⟩
          · refine .inl ⟨C', Mx, j', u', c', kI + k + 1, fun f hf => ?_, fun f => ?_, r3, r4, by omega, by omega, r7, by omega, fun i hi => by rw [r9 i (by omega), p3 i hi], EG_t E3 r10⟩
            · obtain ⟨f, rfl⟩ : ∃ g, f = g + 1 := ⟨f - 1, by omega⟩
              rw [cl, b1, Option.bind_some]
              exact r1 f (by omega)
            · show aM (f + (kI + k) + 1) _ _ _ = _
              rw [rf, ← Nat.add_assoc, b2, e9, r2]
          · refine .inr ⟨C', Mx, kI + k + 1, fun f hf => ?_, fun f => ?_, by omega, FltL_t r4 (EG_C E3) E3.2.2.2.2.2⟩
            · obtain ⟨f, rfl⟩ : ∃ g, f = g + 1 := ⟨f - 1, by omega⟩
              rw [cl, b1, Option.bind_some]
              exact r1 f (by omega)
            · show aM (f + (kI + k) + 1) _ _ _ = _
              rw [rf, ← Nat.add_assoc, b2, e9, r2]
        · obtain ⟨C4, e3, e4⟩ := cC_0 b4 rc 1 (y3 + 1)
          refine .inr ⟨C4, M', k + 1, fun f hf => ?_, fun f => ?_, by omega, FltL_t e4 (EG_C E1) E1.2.2.2.2.2⟩
          · obtain ⟨f, rfl⟩ : ∃ g, f = g + 1 + 1 := ⟨f - 2, by omega⟩
            rw [cl, b1, Option.bind_some]
            exact e3 f
          · show aM (f + k + 1) _ _ _ = _
            rw [rf, b2]
      · exact cond_end (kk + 1) ho hl hs hset h18 h19 h hc hT k5 k4
/-- a condition, in step -/
theorem cond_s {rc : mI → Int32 → Option (Int32 × mI)} {t : Nat → Nat} {n J : Nat} {P : Nat → Nat} {p o u0 b : Nat} {s : List Nat} {L0 L : List Bool} (HS : SiS t n J P o u0 L0 rc) (ho : o ≤ 8) (hb : b ≤ o) (hL : L.length ≤ 2 * o) (hl : s.length ≤ 3 * o) (hs : hd0 s = 0 ∨ hd0 s = 12) {C M : mI} {j u c : Nat} (h : Cst C M t n J P j u c o s) (hc : c + p ≤ j) (hT : Ty (C 116) u0 u L0 L) : CoO C M t n J P j u p o u0 s L0 L (r4_condition rc C) (nI b) := by
  have fu := FU_lt (n := 500) (by omega)
  have cl : r4_condition rc C = (r4_single rc C).bind fun z0 => cC rc FU 0 z0.1 0 z0.2 := rfl
  rcases HS C M j u c p b s L (by omega) (by omega) (by rw [nT_0 (by omega)]; omega) hb h hc hT with ⟨C2, Ms, M', j2, u2, c2, k, b1, b2, b3, b4, b5, b6, b6', b7, b8, b9, b10⟩ | ⟨C2, M', k, b1, b2, b3, b4⟩
  · have e9 : M' = Ms := by
      have x1 := b3 (s.length + 1) (by omega)
      rw [settle_no b4.2.2.1 (by omega) (k := 9) (by decide) (by omega) (y := 9) rfl] at x1
      exact (Option.some.inj x1).symm
    have J4 := b4.1.1.1
    rcases cond_go (p := p) HS ho hb hL hl hs 400 (Nat.le_refl _) j2 C2 Ms Ms u2 c2 false 0 (by omega) (fun f hf => by
      obtain ⟨f, rfl⟩ : ∃ g, f = g + 1 := ⟨f - 1, by omega⟩
      exact settle_no b4.2.2.1 (by omega) (k := 10) (by decide) (by omega) rfl f) rfl rfl b4 (by show c2 + 0 + p ≤ j2; omega) (by omega) b7 with ⟨C', Mx, j', u', c', kI, r1, r2, r3, r4, r5, r6, r7, r8, r9, r10⟩ | ⟨C', Mx, kI, r1, r2, r3, r4⟩
    · refine .inl ⟨C', Mx, j', u', c', kI + k, ?_, fun f => ?_, r3, r4, by omega, by omega, r7, by omega, fun i hi => by rw [r9 i (by omega), b9 i hi], EG_t b10 r10⟩
      · rw [cl, b1, Option.bind_some]
        exact r1 FU (by omega)
      · rw [← Nat.add_assoc, b2, e9, r2]
    · refine .inr ⟨C', Mx, kI + k, ?_, fun f => ?_, by omega, FltL_t r4 (EG_C b10) b10.2.2.2.2.2⟩
      · rw [cl, b1, Option.bind_some]
        exact r1 FU (by omega)
      · rw [← Nat.add_assoc, b2, e9, r2]
  · obtain ⟨C4, e3, e4⟩ := cC_0 b4 rc 0 0
    obtain ⟨f, ef⟩ : ∃ f, FU = f + 1 := ⟨FU - 1, by omega⟩
    refine .inr ⟨C4, M', k, ?_, b2, b3, e4⟩
    rw [cl, b1, Option.bind_some, ef]
    exact e3 f

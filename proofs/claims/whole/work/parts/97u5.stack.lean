/-! TEXT: conditions: the reference's stack -/
def StA (f : Nat → Int32) : List Nat → Prop
  | [] => True
  | x :: s => f s.length = nI x ∧ x < 16 ∧ StA f s
def Spl (M : mI) (s : List Nat) : Prop := M 119 32 = nI s.length ∧ StA (M 138) s
def hd0 : List Nat → Nat
  | [] => 0
  | x :: _ => x
def nT : List Nat → Nat
  | [] => 0
  | x :: s => if x = 9 then nT s + 1 else 0
theorem nT_0 {s : List Nat} (h : hd0 s ≠ 9) : nT s = 0 := by
  cases s with
  | nil => rfl
  | cons x s => exact if_neg h
theorem StA_ext {f f' : Nat → Int32} : ∀ {s : List Nat}, StA f s → (∀ i, i < s.length → f' i = f i) → StA f' s
  | [], _, _ => trivial
  | x :: s, h, e => ⟨by rw [e _ (Nat.lt_succ_self _)]; exact h.1, h.2.1, StA_ext h.2.2 (fun i hi => e i (Nat.lt_succ_of_lt hi))⟩
theorem Spl_M {M M' : mI} {s : List Nat} (h : Spl M s) (h1 : M' 119 32 = M 119 32) (h2 : M' 138 = M 138) : Spl M' s := by
  unfold Spl at *
  rw [h1, h2]; exact h
theorem CR_M {C M M' : mI} {u c : Nat} (h : CR C M u c) (h1 : M' 119 29 = M 119 29) (h2 : M' 136 = M 136) (h3 : M' 137 = M 137) : CR C M' u c := by
  unfold CR at *
  rw [h1, h2, h3]; exact h
theorem CR_C {C C' M : mI} {u c : Nat} (h : CR C M u c) (h1 : C' 114 = C 114) (h2 : C' 116 = C 116) : CR C' M u c := by
  unfold CR at *
  rw [h1, h2]; exact h
theorem waits_q {M : mI} {s : List Nat} (h : Spl M s) (hl : s.length < 40) {x : Nat} (hx : x < 16) {y : Int32} (hy : y = nI x) : ∃ M', r10_waits0 M y = some M' ∧ Spl M' (x :: s) ∧ (∀ a, a ≠ 119 → a ≠ 138 → M' a = M a) ∧ (∀ k, k ≠ 32 → M' 119 k = M 119 k) ∧ FrM M M' := by
  obtain ⟨h1, h2⟩ := h
  refine ⟨mW (mW M 138 s.length y) 119 32 (nI (s.length + 1)), ?_, ⟨mW_at _ _ _ _, ?_, hx, ?_⟩, fun a p q => by rw [mW_ne _ _ _ p, mW_ne _ _ _ q], fun k p => by rw [mW_off _ _ p, mW_ne _ _ _ (by decide)], FrM_t (FrM_w (.inr (.inr (.inr (.inr (.inr rfl))))) (by decide)) (FrM_9 (by omega))⟩
  · unfold r10_waits0
    rw [h1, mSto_n hl (by decide), Option.bind_some, mW_ne _ _ _ (show 119 ≠ 138 by decide), h1, nI_1]
  · rw [mW_ne _ _ _ (by decide), mW_at, hy]
  · rw [mW_ne _ _ _ (by decide), mW_row]
    exact StA_ext h2 (fun i hi => mU_ne _ _ (by omega))
theorem settle_no {M : mI} {s : List Nat} (h : Spl M s) (hl : s.length ≤ 40) {k : Nat} (hk : k < 16) (hne : hd0 s ≠ k) {y : Int32} (hy : y = nI k) (f : Nat) : l10_settles0_0 y (f + 1) M = some M := by
  subst hy
  rw [l10_settles0_0]
  cases s with
  | nil =>
    have e : M 119 32 = 0 := h.1
    rw [if_pos (by rw [e]; decide)]
  | cons x s =>
    obtain ⟨h1, h2, h3, _⟩ := h
    have h1 : M 119 32 = nI (s.length + 1) := h1
    have hl : s.length + 1 ≤ 40 := hl
    have hne : x ≠ k := hne
    rw [h1, if_neg (show ¬ nI (s.length + 1) ≤ (0 : Int32) from nI_ge (a := 0) (by omega) (by omega)), nI_pred, mLd_n (by omega) (by decide), Option.bind_some, h2, if_neg (fun q => hne ((nI_eq (by omega) (by omega)).mp q))]
theorem settle_y {M : mI} {x : Nat} {s : List Nat} (h : Spl M (x :: s)) (hl : s.length < 40) {y : Int32} (hy : y = nI x) (f : Nat) : l10_settles0_0 y (f + 1) M = (r10_emits (mW M 119 32 (nI s.length)) y 0).bind fun z1 => if y = 9 then l10_settles0_0 y f (mW z1 119 30 (z1 119 30 - 1)) else l10_settles0_0 y f z1 := by
  obtain ⟨h1, h2, h3, _⟩ := h
  have h1 : M 119 32 = nI (s.length + 1) := h1
  subst hy
  rw [l10_settles0_0, h1, if_neg (show ¬ nI (s.length + 1) ≤ (0 : Int32) from nI_ge (a := 0) (by omega) (by omega)), nI_pred, mLd_n hl (by decide), Option.bind_some, h2, if_pos rfl]
theorem pop_e {C M : mI} {u c x : Nat} {s : List Nat} (hS : Spl M (x :: s)) (hR : CR C M u c) (hc : c < 400) (h5 : x ≠ 5) {y : Int32} (hy : y = nI x) : ∃ C' M', r6_emit_114 C y 0 = some C' ∧ r10_emits (mW M 119 32 (nI s.length)) y 0 = some M' ∧ CR C' M' (u + 1) (c + 1) ∧ Spl M' s ∧ C' 116 = mU (C 116) u (nI (0 * 16 + x)) ∧ (∀ a, a ≠ 114 → a ≠ 116 → C' a = C a) ∧ (∀ k, k ≠ 3 → C' 114 k = C 114 k) ∧ (∀ a, a ≠ 119 → a ≠ 136 → a ≠ 137 → M' a = M a) ∧ (∀ k, k ≠ 29 → k ≠ 32 → M' 119 k = M 119 k) ∧ FrM M M' := by
  obtain ⟨h1, h2, h3, h4⟩ := hS
  have R1 : CR C (mW M 119 32 (nI s.length)) u c := CR_M hR (mW_off _ _ (by decide)) (mW_ne _ _ _ (by decide)) (mW_ne _ _ _ (by decide))
  obtain ⟨C', M', a1, a2, a3, a4, a5, a6, a7, a8, a9⟩ := emit_s R1 hc (op := x) (arg := 0) h3 h5 (by omega) hy (y := 0) rfl hy (y' := 0) rfl
  refine ⟨C', M', a1, a2, a3, ⟨?_, ?_⟩, a4, a5, a6, fun a p q r => by rw [a7 a p q r, mW_ne _ _ _ p], fun k p q => by rw [a8 k p, mW_off _ _ q], FrM_t (FrM_9 (by omega)) a9⟩
  · rw [a8 32 (by decide), mW_at]
  · rw [a7 138 (by decide) (by decide) (by decide), mW_ne _ _ _ (by decide)]; exact h4
/-- what was waiting alone is settled -/
theorem settle_1 {C M : mI} {u c x : Nat} {s : List Nat} (hS : Spl M (x :: s)) (hl : s.length < 40) (hR : CR C M u c) (hc : c < 400) (hx : x = 10 ∨ x = 11) (hs : hd0 s ≠ x) {y : Int32} (hy : y = nI x) : ∃ C' M', r6_emit_114 C y 0 = some C' ∧ (∀ f, 2 ≤ f → l10_settles0_0 y f M = some M') ∧ CR C' M' (u + 1) (c + 1) ∧ Spl M' s ∧ C' 116 = mU (C 116) u (nI (0 * 16 + x)) ∧ (∀ a, a ≠ 114 → a ≠ 116 → C' a = C a) ∧ (∀ k, k ≠ 3 → C' 114 k = C 114 k) ∧ (∀ a, a ≠ 119 → a ≠ 136 → a ≠ 137 → M' a = M a) ∧ (∀ k, k ≠ 29 → k ≠ 32 → M' 119 k = M 119 k) ∧ FrM M M' := by
  obtain ⟨C', M', a1, a2, a3, a4, a5, a6, a7, a8, a9, a10⟩ := pop_e hS hR hc (by omega) hy
  refine ⟨C', M', a1, fun f hf => ?_, a3, a4, a5, a6, a7, a8, a9, a10⟩
  obtain ⟨f, rfl⟩ : ∃ g, f = g + 1 + 1 := ⟨f - 2, by omega⟩
  have ne : ¬ y = 9 := by
    rw [hy, nI_eqk 9 9 rfl (by decide) (by omega)]; omega
  rw [settle_y hS hl hy, a2, Option.bind_some, if_neg ne, settle_no a4 (by omega) (k := x) (by omega) hs hy]
theorem settle_tot : ∀ {s : List Nat} {M : mI} {c : Nat}, Spl M s → s.length ≤ 40 → M 119 29 = nI c → c + nT s ≤ 400 → ∃ M', (∀ f, s.length < f → l10_settles0_0 9 f M = some M') ∧ (∀ a, a ≠ 119 → a ≠ 136 → a ≠ 137 → M' a = M a) ∧ (∀ k, k ≠ 29 → k ≠ 30 → k ≠ 32 → M' 119 k = M 119 k)
  | [], M, c, hS, hl, h29, hc => ⟨M, fun f hf => by
      obtain ⟨f, rfl⟩ : ∃ g, f = g + 1 := ⟨f - 1, by have : ([] : List Nat).length = 0 := rfl; omega⟩
      exact settle_no hS hl (k := 9) (by decide) (show (0 : Nat) ≠ 9 by decide) rfl f, fun _ _ _ _ => rfl, fun _ _ _ _ => rfl⟩
  | x :: s, M, c, hS, hl, h29, hc => by
    have ll : (x :: s).length = s.length + 1 := rfl
    by_cases hx : x = 9
    · subst hx
      have e : nT (9 :: s) = nT s + 1 := if_pos rfl
      have em := emitM (M := mW M 119 32 (nI s.length)) (c := c) (by omega) (by rw [mW_off _ _ (by decide)]; exact h29) 9 0
      have hS2 : Spl (mW (mW (mW (mW (mW M 119 32 (nI s.length)) 136 (800 + c) 9) 137 (800 + c) 0) 119 29 (nI (c + 1))) 119 30 ((mW (mW (mW (mW M 119 32 (nI s.length)) 136 (800 + c) 9) 137 (800 + c) 0) 119 29 (nI (c + 1))) 119 30 - 1)) s := by
        refine ⟨?_, ?_⟩
        · rw [mW_off _ _ (by decide), mW_off _ _ (by decide), mW_ne _ _ _ (by decide), mW_ne _ _ _ (by decide), mW_at]
        · rw [mW_ne _ _ _ (by decide), mW_ne _ _ _ (by decide), mW_ne _ _ _ (by decide), mW_ne _ _ _ (by decide), mW_ne _ _ _ (by decide)]
          exact hS.2.2.2
      obtain ⟨M', r1, r2, r3⟩ := settle_tot (s := s) (c := c + 1) hS2 (by omega) (by rw [mW_off _ _ (by decide), mW_at]) (by omega)
      refine ⟨M', fun f hf => ?_, fun a p q r => ?_, fun k p q r => ?_⟩
      · obtain ⟨f, rfl⟩ : ∃ g, f = g + 1 := ⟨f - 1, by omega⟩
        rw [settle_y hS (by omega) (y := 9) rfl, em, Option.bind_some, if_pos rfl, r1 f (by omega)]
      · rw [r2 a p q r, mW_ne _ _ _ p, mW_ne _ _ _ p, mW_ne _ _ _ r, mW_ne _ _ _ q, mW_ne _ _ _ p]
      · rw [r3 k p q r, mW_off _ _ q, mW_off _ _ p, mW_ne _ _ _ (by decide), mW_ne _ _ _ (by decide), mW_off _ _ r]
    · refine ⟨M, fun f hf => ?_, fun _ _ _ _ => rfl, fun _ _ _ _ => rfl⟩
      obtain ⟨f, rfl⟩ : ∃ g, f = g + 1 := ⟨f - 1, by omega⟩
      exact settle_no hS hl (k := 9) (by decide) hx rfl f
/-! reading and settling can be told in either order -/
theorem mW_c {I : mI} {a i b k : Nat} {x y : Int32} (h : ¬ (a = b ∧ i = k)) : mW (mW I a i x) b k y = mW (mW I b k y) a i x := by
  funext d e
  simp only [mW_rd]
  repeat' split
  all_goals first | rfl | (exfalso; omega)
theorem mSto_w {I : mI} {a N q : Nat} {i v x : Int32} (ha : a ≠ 119) : mSto (mW I 119 q x) a N i v = (mSto I a N i v).map fun z => mW z 119 q x := by
  unfold mSto
  split
  · rfl
  · rw [mW_c (fun z => ha z.1.symm)]; rfl
theorem emits_w {I : mI} {q : Nat} {x a b : Int32} (h : q ≠ 29) : r10_emits (mW I 119 q x) a b = (r10_emits I a b).map fun z => mW z 119 q x := by
  unfold r10_emits
  rw [mW_off _ _ (fun z => h z.symm), mSto_w (by decide)]
  cases mSto I 136 1200 (800 + I 119 29) a with
  | none => rfl
  | some z =>
    rw [Option.map_some, Option.bind_some, Option.bind_some, mW_off _ _ (fun z => h z.symm), mSto_w (by decide)]
    cases mSto z 137 1200 (800 + z 119 29) b with
    | none => rfl
    | some w =>
      rw [Option.map_some, Option.bind_some, Option.bind_some, mW_off _ _ (fun z => h z.symm), mW_c (fun z => h z.2), Option.map_some]
theorem settle_w {q : Nat} {x : Int32} (h1 : q ≠ 29) (h2 : q ≠ 30) (h3 : q ≠ 32) : ∀ f M, l10_settles0_0 9 f (mW M 119 q x) = (l10_settles0_0 9 f M).map fun z => mW z 119 q x
  | 0, M => rfl
  | f + 1, M => by
    rw [l10_settles0_0, l10_settles0_0, mW_off _ _ (fun z => h3 z.symm)]
    by_cases z : M 119 32 ≤ 0
    · rw [if_pos z, if_pos z]; rfl
    · rw [if_neg z, if_neg z]
      have e : mLd (mW M 119 q x) 138 40 (M 119 32 - 1) = mLd M 138 40 (M 119 32 - 1) := by
        unfold mLd
        rw [mW_ne _ _ _ (show 138 ≠ 119 by decide)]
      rw [e]
      cases mLd M 138 40 (M 119 32 - 1) with
      | none => rfl
      | some v =>
        rw [Option.bind_some, Option.bind_some]
        by_cases w : v = 9
        · rw [if_pos w, if_pos w, mW_c (fun z => h3 z.2), emits_w h1]
          cases r10_emits (mW M 119 32 (M 119 32 - 1)) 9 0 with
          | none => rfl
          | some m =>
            rw [Option.map_some, Option.bind_some, Option.bind_some, if_pos rfl, if_pos rfl, mW_off _ _ (fun z => h2 z.symm), mW_c (fun z => h2 z.2), settle_w h1 h2 h3 f]
        · rw [if_neg w, if_neg w]; rfl
def tkM (M M4 : mI) : mI := mW (mW (mW (mW M 119 16 (M4 119 16)) 119 17 (M4 119 17)) 119 18 (M4 119 18)) 119 19 (M4 119 19)
theorem tkM_eq {M3 M4 : mI} (h : fsM M3 M4) : tkM M3 M4 = M4 := by
  funext d e
  unfold tkM
  simp only [mW_rd]
  by_cases hd : d = 119
  · subst hd
    rw [if_pos rfl, if_pos rfl, if_pos rfl, if_pos rfl]
    repeat' split
    all_goals first | (subst_vars; rfl) | exact (h.2 e (by omega)).symm
  · rw [if_neg hd, if_neg hd, if_neg hd, if_neg hd, h.1 d hd]
theorem tkM_set {M M3 M4 : mI} {f : Nat} (h : l10_settles0_0 9 f M = some M3) (h4 : fsM M3 M4) : l10_settles0_0 9 f (tkM M M4) = some M4 := by
  have e : l10_settles0_0 9 f (tkM M M4) = some (tkM M3 M4) := by
    unfold tkM
    rw [settle_w (by decide) (by decide) (by decide), settle_w (by decide) (by decide) (by decide), settle_w (by decide) (by decide) (by decide), settle_w (by decide) (by decide) (by decide), h]
    rfl
  rw [e, tkM_eq h4]
theorem tkM_fs (M M4 : mI) : fsM M (tkM M M4) ∧ tkM M M4 119 16 = M4 119 16 ∧ tkM M M4 119 17 = M4 119 17 ∧ tkM M M4 119 18 = M4 119 18 ∧ tkM M M4 119 19 = M4 119 19 := by
  unfold tkM
  refine ⟨⟨fun a ha => by rw [mW_ne _ _ _ ha, mW_ne _ _ _ ha, mW_ne _ _ _ ha, mW_ne _ _ _ ha], fun k hk => by rw [mW_off _ _ (by omega), mW_off _ _ (by omega), mW_off _ _ (by omega), mW_off _ _ (by omega)]⟩, ?_, ?_, ?_, mW_at _ _ _ _⟩
  · rw [mW_off _ _ (by decide), mW_off _ _ (by decide), mW_off _ _ (by decide), mW_at]
  · rw [mW_off _ _ (by decide), mW_off _ _ (by decide), mW_at]
  · rw [mW_off _ _ (by decide), mW_at]

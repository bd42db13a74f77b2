/-! COPIES; WHAT CAN BE UNDONE, IN STEP -/
def cpf (g h : Nat → Int32) (o d N : Nat) : Nat → Int32 := fun i => if d ≤ i ∧ i < d + N then g (o + (i - d)) else h i
theorem cpf_in {g h : Nat → Int32} {o d N k : Nat} (hk : k < N) : cpf g h o d N (d + k) = g (o + k) := by
  unfold cpf
  rw [if_pos (by omega), show d + k - d = k by omega]
theorem cpf_out {g h : Nat → Int32} {o d N i : Nat} (hk : ¬ (d ≤ i ∧ i < d + N)) : cpf g h o d N i = h i := if_neg hk
theorem cpf_s (g h : Nat → Int32) (o d k : Nat) : mU (cpf g h o d k) (d + k) (g (o + k)) = cpf g h o d (k + 1) := by
  funext i
  unfold mU cpf
  by_cases e : i = d + k
  · rw [if_pos e, if_pos (by omega), show o + (i - d) = o + k by omega]
  · rw [if_neg e]
    by_cases e2 : d ≤ i ∧ i < d + k
    · rw [if_pos e2, if_pos (by omega)]
    · rw [if_neg e2, if_neg (by omega)]
theorem cpf_0 (g h : Nat → Int32) (o d : Nat) : cpf g h o d 0 = h := by
  funext i
  unfold cpf
  rw [if_neg (by omega)]
theorem cpl (L : Nat → Int32 → mI → Option mI) (Z : mI) (src dst o d N : Nat) (hN : N < 10000) (hsd : src ≠ dst ∨ d ≤ o) (hend : ∀ f I, (∀ b, b ≠ dst → I b = Z b) → L (f + 1) (nI N) I = some I) (hstep : ∀ f k I, k < N → (∀ b, b ≠ dst → I b = Z b) → L (f + 1) (nI k) I = L f (nI (k + 1)) (mW I dst (d + k) (I src (o + k)))) : L FU 0 Z = some (mU Z dst (cpf (Z src) (Z dst) o d N)) := by
  have fr : ∀ (g : Nat → Int32) b, b ≠ dst → (mU Z dst g) b = Z b := fun g b hb => mU_ne _ _ hb
  obtain ⟨u, q1, q2⟩ := loop1 (fun f k (a : mI) => L f (nI k) a) (fun k a => a = mU Z dst (cpf (Z src) (Z dst) o d k)) (fun a => a = mU Z dst (cpf (Z src) (Z dst) o d N)) N
    (fun a ha => ⟨a, fun f => hend f a (by rw [ha]; exact fr _), ha⟩)
    (fun k a hk ha => .inr ⟨_, fun f _ => hstep f k a hk (by rw [ha]; exact fr _), by
      subst ha
      have e : (mU Z dst (cpf (Z src) (Z dst) o d k)) src (o + k) = Z src (o + k) := by
        by_cases sd : src = dst
        · subst sd
          rw [mU_eq, cpf_out (by omega)]
        · rw [mU_ne _ _ sd]
      rw [e, mW_mU, cpf_s]⟩) N 0 FU Z (by omega) (FU_lt hN) (by rw [cpf_0]; exact (mU_self _ _).symm)
  rw [← q2]
  exact q1
theorem cpO_e (I : mI) (a0 a N : Nat) {n : Int32} (hn : n = nI N) (hN : N < 2 ^ 31) : mCpO I a0 N a N 0 0 n = some (mU I a (va_cpy (I a0) (I a) 0 0 N)) := by
  unfold mCpO
  rw [hn, if_neg (by
    have := nI_pos hN
    rw [nI_clamp hN]
    simp [this]), nI_clamp hN]
  rfl
theorem cpy_in {f g : Nat → Int32} {N k : Nat} (h : k < N) : va_cpy f g 0 0 N k = f k := by
  unfold va_cpy
  simp [h]
/-- a stage copied -/
theorem copy_e (I : mI) {a b : Nat} (h : a + 4 < b ∨ b + 4 < a) : ∃ J, r7_copyFrom I a b = some J ∧ (∀ c, ¬ (a ≤ c ∧ c ≤ a + 4) → J c = I c) ∧ (∀ k, 4 ≤ k → k ≤ 12 → J a k = I b k) ∧ (∀ k, k < 12 → J (a + 1) k = I (b + 1) k) ∧ (∀ k, k < 12 → J (a + 2) k = I (b + 2) k) ∧ (∀ k, k < 6 → J (a + 3) k = I (b + 3) k) ∧ (∀ k, k < 8 → J (a + 4) k = I (b + 4) k) := by
  unfold r7_copyFrom
  rw [cpO_e _ _ _ 12 (n := 12) rfl (by decide), Option.bind_some, cpO_e _ _ _ 12 (n := 12) rfl (by decide), Option.bind_some, cpO_e _ _ _ 6 (n := 6) rfl (by decide), Option.bind_some, cpO_e _ _ _ 8 (n := 8) rfl (by decide), Option.bind_some]
  generalize hz : mU _ (a + 4) _ = z3
  have hba : b ≠ a := by omega
  simp only [mW_ne _ _ _ hba]
  have e1 : ∀ k, k < 12 → z3 (a + 1) k = I (b + 1) k := fun k hk => by
    rw [← hz, mU_ne _ _ (by omega), mU_ne _ _ (by omega), mU_ne _ _ (by omega), mU_eq, cpy_in hk]
  have e2 : ∀ k, k < 12 → z3 (a + 2) k = I (b + 2) k := fun k hk => by
    rw [← hz, mU_ne _ _ (by omega), mU_ne _ _ (by omega), mU_eq, cpy_in hk, mU_ne _ _ (by omega)]
  have e3 : ∀ k, k < 6 → z3 (a + 3) k = I (b + 3) k := fun k hk => by
    rw [← hz, mU_ne _ _ (by omega), mU_eq, cpy_in hk, mU_ne _ _ (by omega), mU_ne _ _ (by omega)]
  have e4 : ∀ k, k < 8 → z3 (a + 4) k = I (b + 4) k := fun k hk => by
    rw [← hz, mU_eq, cpy_in hk, mU_ne _ _ (by omega), mU_ne _ _ (by omega), mU_ne _ _ (by omega)]
  have e0 : z3 b = I b := by rw [← hz, mU_ne _ _ (by omega), mU_ne _ _ (by omega), mU_ne _ _ (by omega), mU_ne _ _ (by omega)]
  have ef : ∀ c, ¬ (a ≤ c ∧ c ≤ a + 4) → z3 c = I c := fun c hc => by rw [← hz, mU_ne _ _ (by omega), mU_ne _ _ (by omega), mU_ne _ _ (by omega), mU_ne _ _ (by omega)]
  clear hz
  rw [e0]
  refine ⟨_, rfl, fun c hc => ?_, fun k h4 h12 => ?_, fun k hk => ?_, fun k hk => ?_, fun k hk => ?_, fun k hk => ?_⟩
  · have : c ≠ a := by omega
    simp only [mW_ne _ _ _ this]
    exact ef c hc
  · have : k = 4 ∨ k = 5 ∨ k = 6 ∨ k = 7 ∨ k = 8 ∨ k = 9 ∨ k = 10 ∨ k = 11 ∨ k = 12 := by omega
    rcases this with e | e | e | e | e | e | e | e | e <;> subst e <;> simp only [mW_rd, Nat.reduceEqDiff, reduceIte]
  · have : a + 1 ≠ a := by omega
    simp only [mW_ne _ _ _ this]
    exact e1 k hk
  · have : a + 2 ≠ a := by omega
    simp only [mW_ne _ _ _ this]
    exact e2 k hk
  · have : a + 3 ≠ a := by omega
    simp only [mW_ne _ _ _ this]
    exact e3 k hk
  · have : a + 4 ≠ a := by omega
    simp only [mW_ne _ _ _ this]
    exact e4 k hk
theorem RelS_to {f p w t l N f' p' w' t' l' N' : Nat → Int32} (h : RelS f p w t l N) (hf : ∀ k, 4 ≤ k → k ≤ 12 → f' k = f k) (hp : ∀ k, k < 12 → p' k = p k) (hw : ∀ k, k < 12 → w' k = w k) (ht : ∀ k, k < 6 → t' k = t k) (hl : ∀ k, k < 8 → l' k = l k) (hN : ∀ k, k < 47 → N' k = N k) : RelS f' p' w' t' l' N' := by
  unfold RelS at *
  obtain ⟨⟨a1, a2, a3, a4, a5, a6, a7, a8, a9⟩, b1, b2, b3, b4⟩ := h
  rw [hf 4 (by omega) (by omega), hf 5 (by omega) (by omega), hf 6 (by omega) (by omega), hf 7 (by omega) (by omega), hf 8 (by omega) (by omega), hf 9 (by omega) (by omega), hf 10 (by omega) (by omega), hf 11 (by omega) (by omega), hf 12 (by omega) (by omega), hN 0 (by omega), hN 1 (by omega), hN 2 (by omega), hN 3 (by omega), hN 4 (by omega), hN 5 (by omega), hN 6 (by omega), hN 7 (by omega), hN 8 (by omega)]
  refine ⟨⟨a1, a2, a3, a4, a5, a6, a7, a8, a9⟩, fun k hk => ?_, fun k hk => ?_, fun k hk => ?_, fun k hk => ?_⟩
  · rw [hl k hk, hN _ (by omega), b1 k hk]
  · rw [hp k hk, hN _ (by omega), b2 k hk]
  · rw [hw k hk, hN _ (by omega), b3 k hk]
  · rw [ht k hk, hN _ (by omega), b4 k hk]
theorem WfS_to {N N' : Nat → Int32} {np nq : Int32} (h : WfS N np nq) (hN : ∀ k, k < 47 → N' k = N k) : WfS N' np nq := by
  obtain ⟨a, b, c, d⟩ := h
  refine ⟨by rw [hN 2 (by omega)]; exact a, fun k hk => by rw [hN _ (by omega)]; exact b k hk, fun k hk e => by rw [hN _ (by omega), hN _ (by omega)]; exact c k hk e, fun k hk e => by rw [hN _ (by omega)]; exact d k hk e⟩
/-- what can be undone, of two memories -/
def RU (C M : mI) : Prop := ∃ u f, u ≤ 6 ∧ f < 6 ∧ C 77 2 = nI u ∧ M 119 3 = nI u ∧ C 77 1 = nI f ∧ ∀ j, j < u → (RelS (C (79 + 5 * ((f + j) % 6))) (C (79 + 5 * ((f + j) % 6) + 1)) (C (79 + 5 * ((f + j) % 6) + 2)) (C (79 + 5 * ((f + j) % 6) + 3)) (C (79 + 5 * ((f + j) % 6) + 4)) (fun k => M 121 (47 * j + k)) ∧ WfS (fun k => M 121 (47 * j + k)) (M 119 6) (M 119 7))
theorem RU_to {C M C' M' : mI} (h : RU C M) (hr : ∀ a, 77 ≤ a → a < 109 → C' a = C a) (h1 : M' 121 = M 121) (h3 : M' 119 3 = M 119 3) (h6 : M' 119 6 = M 119 6) (h7 : M' 119 7 = M 119 7) : RU C' M' := by
  obtain ⟨u, f, hu, hf, e1, e2, e3, hs⟩ := h
  refine ⟨u, f, hu, hf, ?_, by rw [h3, e2], ?_, fun j hj => ?_⟩
  · rw [hr 77 (by decide) (by decide), e1]
  · rw [hr 77 (by decide) (by decide), e3]
  · have hm : (f + j) % 6 < 6 := Nat.mod_lt _ (by decide)
    rw [hr _ (by omega) (by omega), hr (79 + 5 * ((f + j) % 6) + 1) (by omega) (by omega), hr (79 + 5 * ((f + j) % 6) + 2) (by omega) (by omega), hr (79 + 5 * ((f + j) % 6) + 3) (by omega) (by omega), hr (79 + 5 * ((f + j) % 6) + 4) (by omega) (by omega), h1, h6, h7]
    exact hs j hj
theorem ldP_e {k : Nat} (h : k < 6) : mLdP (nI k) = some (79 + 5 * k) := by
  unfold mLdP
  rw [if_neg (by have := nI_pos (n := k) (by omega); rw [nI_clamp (by omega)]; simp [this]; omega), nI_clamp (by omega)]
theorem keeps55 (Z : mI) {c : Nat} (hc : c < 6) (e : Z 119 3 = nI c) : l10_keepsAhead_55 FU 0 Z = some (mU Z 121 (cpf (Z 120) (Z 121) 0 (47 * c) 47)) := by
  refine cpl l10_keepsAhead_55 Z 120 121 0 (47 * c) 47 (by decide) (.inl (by decide)) (fun f I hI => ?_) (fun f k I hk hI => ?_)
  · rw [l10_keepsAhead_55, if_pos (by decide)]
  · rw [l10_keepsAhead_55, if_neg (show ¬ (47 : Int32) ≤ nI k from nI_ge (b := 47) hk (by decide)), mLd_n hk (by decide), Option.bind_some, hI 119 (by decide), e, show (47 : Int32) = nI 47 from rfl, nI_mul, nI_add, mSto_n (by omega) (by decide), Option.bind_some, nI_1, Nat.zero_add]
theorem keeps21 (Z : mI) (e : Z 119 3 = nI 5) : l10_keepsAhead_21 FU 0 Z = some (mU Z 121 (cpf (Z 121) (Z 121) 47 0 235)) := by
  refine cpl l10_keepsAhead_21 Z 121 121 47 0 235 (by decide) (.inr (by decide)) (fun f I hI => ?_) (fun f k I hk hI => ?_)
  · rw [l10_keepsAhead_21, hI 119 (by decide), e, if_pos (by decide)]
  · rw [l10_keepsAhead_21, hI 119 (by decide), e, show (47 : Int32) * nI 5 = nI 235 by decide, if_neg (nI_ge hk (by decide)), show (47 : Int32) = nI 47 from rfl, nI_add, mLd_n (by omega) (by decide), Option.bind_some, mSto_n (by omega) (by decide), Option.bind_some, nI_1, Nat.zero_add, Nat.add_comm 47 k]
theorem keep_e {C M : mI} (h : RU C M) (hS : RelS (C 3) (C 4) (C 5) (C 6) (C 7) (M 120)) (hw : WfS (M 120) (M 119 6) (M 119 7)) : ∃ C' M', r3_keep C = some C' ∧ r10_keepsAhead M = some M' ∧ RU C' M' ∧ (∀ a, ¬ (77 ≤ a ∧ a < 109) → C' a = C a) ∧ (∀ a, a ≠ 119 → a ≠ 121 → M' a = M a) ∧ (∀ k, k ≠ 3 → M' 119 k = M 119 k) := by
  obtain ⟨u, f, hu, hf, e1, e2, e3, hs⟩ := h
  have ht : (f + u) % 6 < 6 := Nat.mod_lt _ (by decide)
  obtain ⟨J, j1, jf, j0, ja, jb, jc, jd⟩ := copy_e C (a := 79 + 5 * ((f + u) % 6)) (b := 3) (by omega)
  have hcp : RelS (J (79 + 5 * ((f + u) % 6))) (J (79 + 5 * ((f + u) % 6) + 1)) (J (79 + 5 * ((f + u) % 6) + 2)) (J (79 + 5 * ((f + u) % 6) + 3)) (J (79 + 5 * ((f + u) % 6) + 4)) (M 120) := RelS_to hS j0 ja jb jc jd (fun _ _ => rfl)
  have J77 : J 77 = C 77 := jf 77 (by omega)
  have kp : r3_keep C = (if (6 : Int32) ≤ nI u then some (mW J 77 1 (mRm (nI f + 1) 6)) else some (mW J 77 2 (nI u + 1)) : Option mI).bind fun z2 => some z2 := by
    unfold r3_keep
    rw [e3, e1, nI_add, show (6 : Int32) = nI 6 from rfl, nI_rem (by omega) (by decide) (by decide), ldP_e ht, Option.bind_some, j1, Option.bind_some, J77, e1, e3]
  have old : ∀ j t, j < u → t = 79 + 5 * ((f + j) % 6) → (f + j) % 6 ≠ (f + u) % 6 → ∀ N' : Nat → Int32, (∀ k, k < 47 → N' k = M 121 (47 * j + k)) → RelS (J t) (J (t + 1)) (J (t + 2)) (J (t + 3)) (J (t + 4)) N' ∧ WfS N' (M 119 6) (M 119 7) := by
    intro j t hj ht' hne N' hN
    have hj6 : (f + j) % 6 < 6 := Nat.mod_lt _ (by decide)
    subst ht'
    obtain ⟨a, b⟩ := hs j hj
    rw [jf _ (by omega), jf (79 + 5 * ((f + j) % 6) + 1) (by omega), jf (79 + 5 * ((f + j) % 6) + 2) (by omega), jf (79 + 5 * ((f + j) % 6) + 3) (by omega), jf (79 + 5 * ((f + j) % 6) + 4) (by omega)]
    exact ⟨RelS_to a (fun _ _ _ => rfl) (fun _ _ => rfl) (fun _ _ => rfl) (fun _ _ => rfl) (fun _ _ => rfl) hN, WfS_to b hN⟩
  by_cases z : u = 6
  · subst z
    have m1 : mW M 119 3 (M 119 3 - 1) 119 3 = nI 5 := by rw [mW_at, e2]; decide
    have mk : r10_keepsAhead M = some (mW (mU (mU (mW M 119 3 (M 119 3 - 1)) 121 (cpf (M 121) (M 121) 47 0 235)) 121 (cpf (M 120) (cpf (M 121) (M 121) 47 0 235) 0 235 47)) 119 3 6) := by
      unfold r10_keepsAhead
      rw [e2, if_pos (by decide)]
      rw [e2] at m1
      rw [keeps21 _ m1, Option.bind_some, Option.bind_some, keeps55 _ (c := 5) (by decide) (by rw [mU_ne _ _ (by decide)]; exact m1), Option.bind_some]
      rw [mU_ne (mU _ 121 _) _ (show (119 : Nat) ≠ 121 by decide), mU_ne _ _ (show (119 : Nat) ≠ 121 by decide), m1]
      rfl
    refine ⟨mW J 77 1 (nI ((f + 1) % 6)), _, ?_, mk, ?_, fun a ha => ?_, fun a h1 h2 => ?_, fun k hk => ?_⟩
    · rw [kp, if_pos (by decide), Option.bind_some, nI_1, show (6 : Int32) = nI 6 from rfl, nI_rem (by omega) (by decide) (by decide)]
    · refine ⟨6, (f + 1) % 6, by omega, Nat.mod_lt _ (by decide), ?_, ?_, ?_, fun j hj => ?_⟩
      · rw [mW_off _ _ (by decide), J77, e1]
      · rw [mW_at]; rfl
      · rw [mW_at]
      · have hj6 : ((f + 1) % 6 + j) % 6 < 6 := Nat.mod_lt _ (by decide)
        rw [mW_ne _ _ _ (show 79 + 5 * (((f + 1) % 6 + j) % 6) ≠ 77 by omega), mW_ne _ _ _ (show 79 + 5 * (((f + 1) % 6 + j) % 6) + 1 ≠ 77 by omega), mW_ne _ _ _ (show 79 + 5 * (((f + 1) % 6 + j) % 6) + 2 ≠ 77 by omega), mW_ne _ _ _ (show 79 + 5 * (((f + 1) % 6 + j) % 6) + 3 ≠ 77 by omega), mW_ne _ _ _ (show 79 + 5 * (((f + 1) % 6 + j) % 6) + 4 ≠ 77 by omega)]
        rw [mW_off _ _ (show 6 ≠ 3 by decide), mW_off _ _ (show 7 ≠ 3 by decide), mW_ne _ _ _ (show 121 ≠ 119 by decide), mU_eq, mU_ne _ _ (show 119 ≠ 121 by decide), mU_ne _ _ (show 119 ≠ 121 by decide), mW_off _ _ (show 6 ≠ 3 by decide), mW_off _ _ (show 7 ≠ 3 by decide)]
        by_cases j5 : j = 5
        · subst j5
          have et : ((f + 1) % 6 + 5) % 6 = (f + 6) % 6 := by omega
          rw [et]
          have hN : ∀ k, k < 47 → cpf (M 120) (cpf (M 121) (M 121) 47 0 235) 0 235 47 (47 * 5 + k) = M 120 k := fun k hk => by
            rw [show 47 * 5 + k = 235 + k by omega, cpf_in hk, Nat.zero_add]
          exact ⟨RelS_to hcp (fun _ _ _ => rfl) (fun _ _ => rfl) (fun _ _ => rfl) (fun _ _ => rfl) (fun _ _ => rfl) hN, WfS_to hw hN⟩
        · refine old (j + 1) _ (by omega) (by omega) (by omega) _ (fun k hk => ?_)
          rw [cpf_out (by omega), show 47 * j + k = 0 + (47 * j + k) by omega, cpf_in (by omega)]
          exact congrArg _ (by omega)
    · rw [mW_ne _ _ _ (by omega), jf a (by omega)]
    · rw [mW_ne _ _ _ h1, mU_ne _ _ h2, mU_ne _ _ h2, mW_ne _ _ _ h1]
    · rw [mW_off _ _ hk, mU_ne _ _ (by decide), mU_ne _ _ (by decide), mW_off _ _ hk]
  · have mk : r10_keepsAhead M = some (mW (mU M 121 (cpf (M 120) (M 121) 0 (47 * u) 47)) 119 3 (nI (u + 1))) := by
      unfold r10_keepsAhead
      rw [e2, if_neg (by rw [nI_eqk 6 6 rfl (by decide) (by omega)]; exact z), Option.bind_some, keeps55 _ (c := u) (by omega) e2, Option.bind_some, mU_ne _ _ (show (119 : Nat) ≠ 121 by decide), e2, nI_1]
    refine ⟨mW J 77 2 (nI (u + 1)), _, ?_, mk, ?_, fun a ha => ?_, fun a h1 h2 => ?_, fun k hk => ?_⟩
    · rw [kp, if_neg (show ¬ (6 : Int32) ≤ nI u from nI_ge (b := 6) (by omega) (by decide)), Option.bind_some, nI_1]
    · refine ⟨u + 1, f, by omega, hf, ?_, ?_, ?_, fun j hj => ?_⟩
      · rw [mW_at]
      · rw [mW_at]
      · rw [mW_off _ _ (by decide), J77, e3]
      · have hj6 : (f + j) % 6 < 6 := Nat.mod_lt _ (by decide)
        rw [mW_ne _ _ _ (show 79 + 5 * ((f + j) % 6) ≠ 77 by omega), mW_ne _ _ _ (show 79 + 5 * ((f + j) % 6) + 1 ≠ 77 by omega), mW_ne _ _ _ (show 79 + 5 * ((f + j) % 6) + 2 ≠ 77 by omega), mW_ne _ _ _ (show 79 + 5 * ((f + j) % 6) + 3 ≠ 77 by omega), mW_ne _ _ _ (show 79 + 5 * ((f + j) % 6) + 4 ≠ 77 by omega)]
        rw [mW_off _ _ (show 6 ≠ 3 by decide), mW_off _ _ (show 7 ≠ 3 by decide), mW_ne _ _ _ (show 121 ≠ 119 by decide), mU_eq, mU_ne _ _ (show 119 ≠ 121 by decide)]
        by_cases ju : j = u
        · subst ju
          have hN : ∀ k, k < 47 → cpf (M 120) (M 121) 0 (47 * j) 47 (47 * j + k) = M 120 k := fun k hk => by
            rw [cpf_in hk, Nat.zero_add]
          exact ⟨RelS_to hcp (fun _ _ _ => rfl) (fun _ _ => rfl) (fun _ _ => rfl) (fun _ _ => rfl) (fun _ _ => rfl) hN, WfS_to hw hN⟩
        · refine old j _ (by omega) rfl (by omega) _ (fun k hk => ?_)
          show cpf (M 120) (M 121) 0 (47 * u) 47 (47 * j + k) = _
          rw [cpf_out (by omega)]
    · rw [mW_ne _ _ _ (by omega), jf a (by omega)]
    · rw [mW_ne _ _ _ h1, mU_ne _ _ h2]
    · rw [mW_off _ _ hk, mU_ne _ _ (by decide)]

/-! LASTS: what comes of a piece depends on water and salt alone -/
def CK (C0 C : mI) (w s : Int32) (S : Nat → Prop) : Prop := (C 35 4 = w ∧ C 35 5 = s ∧ C 35 6 = C0 35 6 ∧ C 35 7 = C0 35 7 ∧ C 35 10 = C0 35 10) ∧ (∀ k, k < 12 → S k → C 36 k = C0 36 k) ∧ (∀ a, ((8 ≤ a ∧ a ≤ 13) ∨ (15 ≤ a ∧ a ≤ 17)) → C a = C0 a) ∧ C 1 3 = 0
def MK (M0 M : mI) (w s : Int32) (S : Nat → Prop) : Prop := (M 120 3 = w ∧ M 120 4 = s ∧ M 120 5 = M0 120 5 ∧ M 120 6 = M0 120 6 ∧ M 120 0 = M0 120 0) ∧ (∀ k, k < 12 → S k → M 120 (17 + k) = M0 120 (17 + k)) ∧ (∀ a, ((123 ≤ a ∧ a ≤ 127) ∨ (131 ≤ a ∧ a ≤ 137)) → M a = M0 a) ∧ (M 119 6 = M0 119 6 ∧ M 119 7 = M0 119 7) ∧ M 119 5 = 1
theorem QW_of {C0 M0 C M : mI} {w s : Int32} {S : Nat → Prop} (hB : QW C0 M0 (fun _ => True)) (hC : CK C0 C w s S) (hM : MK M0 M w s S) : QW C M S := by
  obtain ⟨⟨w4, w5, w6, w7, w10⟩, hpl, hc, hl, h1, h2⟩ := hB
  obtain ⟨⟨c4, c5, c6, c7, c10⟩, cp, cr, c1⟩ := hC
  obtain ⟨⟨m3, m4, m5, m6, m0⟩, mp, mr, ⟨n6, n7⟩, n5⟩ := hM
  refine ⟨⟨by rw [c4, m3], by rw [c5, m4], by rw [c6, m5, w6], by rw [c7, m6, w7], by rw [c10, m0, w10]⟩, fun k hk hS => by rw [cp k hk hS, mp k hk hS, hpl k hk trivial], ?_, ?_, c1, n5⟩
  · rw [cr 8 (by omega), cr 9 (by omega), cr 10 (by omega), cr 11 (by omega), cr 12 (by omega), cr 13 (by omega), n6, n7, mr 123 (by omega), mr 124 (by omega), mr 125 (by omega), mr 126 (by omega), mr 127 (by omega)]; exact hc
  · rw [cr 15 (by omega), cr 16 (by omega), cr 17 (by omega), mr 131 (by omega), mr 132 (by omega), mr 133 (by omega), mr 134 (by omega), mr 135 (by omega), mr 136 (by omega), mr 137 (by omega)]; exact hl
theorem CK_sub {C0 C : mI} {w s : Int32} {S T : Nat → Prop} (h : CK C0 C w s S) (hT : ∀ k, T k → S k) : CK C0 C w s T := ⟨h.1, fun k hk hS => h.2.1 k hk (hT k hS), h.2.2⟩
theorem MK_sub {M0 M : mI} {w s : Int32} {S T : Nat → Prop} (h : MK M0 M w s S) (hT : ∀ k, T k → S k) : MK M0 M w s T := ⟨h.1, fun k hk hS => h.2.1 k hk (hT k hS), h.2.2⟩
theorem CK_A {C0 M0 : mI} (hB : QW C0 M0 (fun _ => True)) (w s : Int32) (S : Nat → Prop) : CK C0 (mW (mW C0 35 4 w) 35 5 s) w s S := by
  have rc : ∀ j, j ≠ 4 → j ≠ 5 → (mW (mW C0 35 4 w) 35 5 s) 35 j = C0 35 j := fun j a b => by rw [mW_off _ _ b, mW_off _ _ a]
  refine ⟨⟨by rw [mW_off _ _ (by decide), mW_at], mW_at _ _ _ _, rc 6 (by decide) (by decide), rc 7 (by decide) (by decide), rc 10 (by decide) (by decide)⟩, fun k _ _ => by rw [mW_ne _ _ _ (by decide), mW_ne _ _ _ (by decide)], fun a ha => by rw [mW_ne _ _ _ (by omega), mW_ne _ _ _ (by omega)], ?_⟩
  rw [mW_ne _ _ _ (by decide), mW_ne _ _ _ (by decide)]
  exact hB.2.2.2.2.1
theorem MK_Z {C0 M0 : mI} (hB : QW C0 M0 (fun _ => True)) (w s : Int32) (S : Nat → Prop) : MK M0 (mW (mW M0 120 3 w) 120 4 s) w s S := by
  have rm : ∀ j, j ≠ 3 → j ≠ 4 → (mW (mW M0 120 3 w) 120 4 s) 120 j = M0 120 j := fun j a b => by rw [mW_off _ _ b, mW_off _ _ a]
  refine ⟨⟨by rw [mW_off _ _ (by decide), mW_at], mW_at _ _ _ _, rm 5 (by decide) (by decide), rm 6 (by decide) (by decide), rm 0 (by decide) (by decide)⟩, fun k hk _ => rm _ (by omega) (by omega), fun a ha => by rw [mW_ne _ _ _ (by omega), mW_ne _ _ _ (by omega)], by rw [mW_ne _ _ _ (by decide), mW_ne _ _ _ (by decide)]; exact ⟨rfl, rfl⟩, ?_⟩
  rw [mW_ne _ _ _ (by decide), mW_ne _ _ _ (by decide)]
  exact hB.2.2.2.2.2
/-- what comes of a piece: how long is waited, the water, the salt -/
def TrP (C0 M0 : mI) (p q : Nat) (w s : Int32) (r : Nat × Int32 × Int32) : Prop := r.1 ≤ 60 ∧ (∀ C S, CK C0 C w s S → S q → ∃ v C1 C2, r5_perform C 35 (nI p) (nI q) 0 = some (v, C1) ∧ r5_waitBehind C1 35 (nI q) = some (nI r.1, C2) ∧ CK C0 C2 r.2.1 r.2.2 (fun k => S k ∧ k ≠ q) ∧ (∀ a, ¬ (35 ≤ a ∧ a ≤ 38) → a ≠ 40 → a ≠ 41 → C2 a = C a) ∧ (∀ k, k ≠ q → C2 36 k = C 36 k) ∧ C2 36 q = C 36 q + 1) ∧ (∀ M S, MK M0 M w s S → S q → ∃ v M1 M2, r10_plays M (nI p) (nI q) = some (v, M1) ∧ r10_waits1 M1 (nI p) (nI q) = some M2 ∧ MK M0 M2 r.2.1 r.2.2 (fun k => S k ∧ k ≠ q) ∧ (∀ a, a ≠ 120 → a ≠ 142 → a ≠ 143 → M1 a = M a) ∧ (∀ a, a ≠ 120 → a ≠ 142 → a ≠ 143 → M2 a = M a) ∧ M1 120 7 = M 120 7 + M0 123 q ∧ M1 120 8 = M 120 8 ∧ M2 120 7 = M 120 7 + M0 123 q ∧ M2 120 8 = M 120 8 + nI r.1)
theorem tr_ex {C0 M0 : mI} (hB : QW C0 M0 (fun _ => True)) {p q : Nat} (hp : p < 6) (hq : q < 12) (hp' : nI p < M0 119 7) (hq' : nI q < M0 119 6) (w s : Int32) : ∃ r, TrP C0 M0 p q w s r := by
  have hZ : MK M0 (mW (mW M0 120 3 w) 120 4 s) w s (fun k => k = q) := MK_Z hB w s _
  have hA : CK C0 (mW (mW C0 35 4 w) 35 5 s) w s (fun k => k = q) := CK_A hB w s _
  have Q0 := QW_of hB hA hZ
  generalize mW (mW C0 35 4 w) 35 5 s = A at *
  generalize mW (mW M0 120 3 w) 120 4 s = Z at *
  -- any two
  have pair : ∀ (C M : mI), CK C0 C w s (fun k => k = q) → MK M0 M w s (fun k => k = q) → ∃ v C1 M1 n C2 M2, n ≤ 60 ∧ r5_perform C 35 (nI p) (nI q) 0 = some (v, C1) ∧ r5_waitBehind C1 35 (nI q) = some (nI n, C2) ∧ r10_plays M (nI p) (nI q) = some (v, M1) ∧ r10_waits1 M1 (nI p) (nI q) = some M2 ∧ (C2 35 4 = M2 120 3 ∧ C2 35 5 = M2 120 4) ∧ ((∀ a, ¬ (35 ≤ a ∧ a ≤ 38) → a ≠ 40 → a ≠ 41 → C2 a = C a) ∧ (∀ k, k ≠ 4 → k ≠ 5 → k ≠ 8 → k ≠ 9 → C2 35 k = C 35 k) ∧ (∀ k, k ≠ q → C2 36 k = C 36 k) ∧ C2 36 q = C 36 q + 1) ∧ ((∀ a, a ≠ 120 → a ≠ 142 → a ≠ 143 → M1 a = M a) ∧ (∀ a, a ≠ 120 → a ≠ 142 → a ≠ 143 → M2 a = M a) ∧ M1 120 7 = M 120 7 + M 123 q ∧ M1 120 8 = M 120 8 ∧ M2 120 7 = M 120 7 + M 123 q ∧ M2 120 8 = M 120 8 + nI n ∧ (∀ k, k ≠ q → k < 12 → M2 120 (17 + k) = M 120 (17 + k))) ∧ (M2 120 5 = C2 35 6 - 10 ∧ M2 120 6 = C2 35 7 ∧ M2 120 0 = C2 35 10) := by
    intro C M hC hM
    have Q := QW_of hB hC hM
    obtain ⟨v, C1, M1, a1, a2, Q1, V1, f1, f2, f3, f4, g1, g2, g3, g4⟩ := perform_q (p := p) (q := q) Q rfl hp hq (by rw [hM.2.2.2.1.2]; exact hp') (by rw [hM.2.2.2.1.1]; exact hq')
    obtain ⟨n, C2, M2, hn, b1, b2, Q2, d1, d2, e1, e2, e3, e4⟩ := wait_q (p := p) (q := q) Q1 rfl hp hq (by rw [g1 119 (by decide) (by decide) (by decide), hM.2.2.2.1.1]; exact hq') V1
    refine ⟨v, C1, M1, n, C2, M2, hn, a1, b1, a2, b2, ⟨Q2.1.1, Q2.1.2.1⟩, ⟨fun a x y z => by rw [d1 a (by omega) y z, f1 a x y z], fun k k4 k5 k8 k9 => by rw [d2 k k4 k5 k9, f2 k k4 k5 k8], fun k hk => by rw [d1 36 (by decide) (by decide) (by decide), f3 k hk], by rw [d1 36 (by decide) (by decide) (by decide), f4]⟩, ⟨g1, fun a x y z => by rw [e1 a x y z, g1 a x y z], g2, g3, by rw [e2, g2], by rw [e3, g3], fun k hk hk2 => by rw [e4 k hk2, g4 k hk hk2]⟩, ?_⟩
    obtain ⟨_, _, u6, u7, u10⟩ := Q2.1
    exact ⟨by rw [u6, Int32.add_sub_cancel], u7.symm, u10.symm⟩
  obtain ⟨v, A1, Z1, n, A2, Z2, hn, p1, p2, p3, p4, ⟨p5, p6⟩, _, ⟨_, _, zz1, zz2, zz3, zz4, _⟩, _⟩ := pair A Z hA hZ
  refine ⟨(n, Z2 120 3, Z2 120 4), hn, fun C S hC hS => ?_, fun M S hM hS => ?_⟩
  · obtain ⟨v', C1, Z1', n', C2, Z2', hn', r1, r2, r3, r4, ⟨r5, r6⟩, ⟨f1, f2, f3, f4⟩, ⟨_, _, _, _, _, z4, _⟩, _⟩ := pair C Z (CK_sub hC (fun k hk => by rw [hk]; exact hS)) hZ
    have eZ1 : Z1' = Z1 := by
      rw [p3] at r3
      exact (congrArg (fun z => z.2) (Option.some.inj r3)).symm
    subst eZ1
    have eZ2 : Z2' = Z2 := by
      rw [p4] at r4
      exact (Option.some.inj r4).symm
    subst eZ2
    have en : n' = n := by
      rw [zz4] at z4
      have : nI n = nI n' := by
        have := congrArg (fun x => x - Z 120 8) z4
        simpa [Int32.add_comm, Int32.add_sub_cancel] using this
      exact ((nI_eq (by omega) (by omega)).mp this).symm
    subst en
    obtain ⟨⟨c4, c5, c6, c7, c10⟩, cp, cr, c1⟩ := hC
    refine ⟨v', C1, C2, r1, r2, ⟨⟨r5, r6, by rw [f2 6 (by decide) (by decide) (by decide) (by decide), c6], by rw [f2 7 (by decide) (by decide) (by decide) (by decide), c7], by rw [f2 10 (by decide) (by decide) (by decide) (by decide), c10]⟩, fun k hk hk2 => by rw [f3 k hk2.2, cp k hk hk2.1], fun a ha => by rw [f1 a (by omega) (by omega) (by omega), cr a ha], by rw [f1 1 (by omega) (by decide) (by decide), c1]⟩, f1, f3, f4⟩
  · obtain ⟨v', A1', M1, n', A2', M2, hn', r1, r2, r3, r4, ⟨r5, r6⟩, ⟨g1, g2, _, _⟩, ⟨f1, f2, f3, f4, f5, f6, f7⟩, k1, k2, k3⟩ := pair A M hA (MK_sub hM (fun k hk => by rw [hk]; exact hS))
    have eA1 : A1' = A1 := by
      rw [p1] at r1
      exact (congrArg (fun z => z.2) (Option.some.inj r1)).symm
    subst eA1
    have e2 : (nI n, A2) = (nI n', A2') := by
      rw [p2] at r2
      exact Option.some.inj r2
    have en : n' = n := ((nI_eq (by omega) (by omega)).mp (congrArg Prod.fst e2)).symm
    have eA2 : A2' = A2 := (congrArg Prod.snd e2).symm
    subst en eA2
    obtain ⟨⟨m3, m4, m5, m6, m0⟩, mp, mr, ⟨n6, n7⟩, n5⟩ := hM
    obtain ⟨⟨c4, c5, c6, c7, c10⟩, cp, cr, c1⟩ := hA
    obtain ⟨⟨b4, b5, b6, b7, b10⟩, _⟩ := hB
    have e123 : M 123 = M0 123 := mr 123 (by omega)
    rw [e123] at f3 f5
    refine ⟨v', M1, M2, r3, r4, ⟨⟨by rw [← r5, p5], by rw [← r6, p6], ?_, ?_, ?_⟩, fun k hk hk2 => by rw [f7 k hk2.2 hk, mp k hk hk2.1], fun a ha => by rw [f2 a (by omega) (by omega) (by omega), mr a ha], by rw [f2 119 (by decide) (by decide) (by decide)]; exact ⟨n6, n7⟩, by rw [f2 119 (by decide) (by decide) (by decide), n5]⟩, f1, f2, f3, f4, f5, f6⟩
    · rw [k1, g2 6 (by decide) (by decide) (by decide) (by decide), c6, b6, Int32.add_sub_cancel]
    · rw [k2, g2 7 (by decide) (by decide) (by decide) (by decide), c7, b7]
    · rw [k3, g2 10 (by decide) (by decide) (by decide) (by decide), c10, b10]

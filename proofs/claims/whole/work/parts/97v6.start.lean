/-! TEXT: its beginning -/
def TxH (C M : mI) (t : Nat → Nat) (n np nq : Nat) : Prop := n ≤ 400 ∧ C 109 1 = nI n ∧ (∀ i, i < 400 → t i ≤ 255 ∧ C 110 i = nI (t i)) ∧ TapM M t n ∧ np ≤ 12 ∧ nq ≤ 6 ∧ (C 8 6 = nI np ∧ C 8 7 = nI nq) ∧ (M 119 6 = nI np ∧ M 119 7 = nI nq)
def hdM (M : mI) : mI := mW (mW (mW (mW (mW (mW M 119 0 0) 119 35 0) 119 36 (-1)) 119 16 0) 119 29 0) 119 30 0
def hdC (C : mI) : mI := mW (mW (mW (mW (mW (mW C 109 11 0) 109 12 (-1)) 109 8 (C 8 6)) 109 9 (C 8 7)) 114 2 0) 114 3 0
theorem hdM_r (M : mI) {a : Nat} (ha : a ≠ 119) : hdM M a = M a := by
  unfold hdM
  rw [mW_ne _ _ _ ha, mW_ne _ _ _ ha, mW_ne _ _ _ ha, mW_ne _ _ _ ha, mW_ne _ _ _ ha, mW_ne _ _ _ ha]
theorem hdM_k (M : mI) {k : Nat} (h : k ≠ 0 ∧ k ≠ 35 ∧ k ≠ 36 ∧ k ≠ 16 ∧ k ≠ 29 ∧ k ≠ 30) : hdM M 119 k = M 119 k := by
  obtain ⟨h1, h2, h3, h4, h5, h6⟩ := h
  unfold hdM
  rw [mW_off _ _ h6, mW_off _ _ h5, mW_off _ _ h4, mW_off _ _ h3, mW_off _ _ h2, mW_off _ _ h1]
theorem hdM_v (M : mI) : hdM M 119 35 = 0 ∧ hdM M 119 36 = -1 ∧ hdM M 119 16 = 0 ∧ hdM M 119 29 = 0 ∧ hdM M 119 30 = 0 := by
  unfold hdM
  refine ⟨?_, ?_, ?_, ?_, mW_at _ _ _ _⟩
  · rw [mW_off _ _ (by decide), mW_off _ _ (by decide), mW_off _ _ (by decide), mW_off _ _ (by decide), mW_at]
  · rw [mW_off _ _ (by decide), mW_off _ _ (by decide), mW_off _ _ (by decide), mW_at]
  · rw [mW_off _ _ (by decide), mW_off _ _ (by decide), mW_at]
  · rw [mW_off _ _ (by decide), mW_at]
theorem text_start {C M : mI} {t : Nat → Nat} {n np nq : Nat} (H : TxH C M t n np nq) : ∃ z1 Ms J P, r4_splitTape (hdC C) = some z1 ∧ r10_reads (mW (hdM M) 119 28 0) = some Ms ∧ Syn (mW z1 109 1 0) Ms t n J P 0 ∧ ((mW z1 109 1 0) 114 2 = 0 ∧ (mW z1 109 1 0) 114 3 = 0 ∧ (mW z1 109 1 0) 109 11 = 0 ∧ (mW z1 109 1 0) 109 12 = -1 ∧ (mW z1 109 1 0) 109 7 = 0 ∧ (mW z1 109 1 0) 109 8 = nI np ∧ (mW z1 109 1 0) 109 9 = nI nq ∧ (mW z1 109 1 0) 109 1 = 0) ∧ (∀ a, ¬ (109 ≤ a ∧ a ≤ 116 ∧ a ≠ 110) → (mW z1 109 1 0) a = C a) ∧ (∀ a, a ≠ 119 → Ms a = M a) ∧ (∀ k, k ≠ 0 → ¬ (16 ≤ k ∧ k ≤ 19) → ¬ (28 ≤ k ∧ k ≤ 30) → k ≠ 35 → k ≠ 36 → Ms 119 k = M 119 k) ∧ (Ms 119 28 = 0 ∧ Ms 119 29 = 0 ∧ Ms 119 30 = 0 ∧ Ms 119 35 = 0 ∧ Ms 119 36 = -1) := by
  obtain ⟨hn, c1, ht, hT, hnp, hnq, ⟨c8, c9⟩, m6, m7⟩ := H
  have hd : ∀ a, a ≠ 109 → a ≠ 114 → hdC C a = C a := fun a p q => by
    unfold hdC
    rw [mW_ne _ _ _ q, mW_ne _ _ _ q, mW_ne _ _ _ p, mW_ne _ _ _ p, mW_ne _ _ _ p, mW_ne _ _ _ p]
  have h9 : ∀ k, k ≠ 8 → k ≠ 9 → k ≠ 11 → k ≠ 12 → hdC C 109 k = C 109 k := fun k p q r s => by
    unfold hdC
    rw [mW_ne _ _ _ (by decide), mW_ne _ _ _ (by decide), mW_off _ _ q, mW_off _ _ p, mW_off _ _ s, mW_off _ _ r]
  have v8 : hdC C 109 8 = nI np := by
    unfold hdC
    rw [mW_ne _ _ _ (by decide), mW_ne _ _ _ (by decide), mW_off _ _ (by decide), mW_at, c8]
  have v9 : hdC C 109 9 = nI nq := by
    unfold hdC
    rw [mW_ne _ _ _ (by decide), mW_ne _ _ _ (by decide), mW_at, c9]
  have v11 : hdC C 109 11 = 0 := by
    unfold hdC
    rw [mW_ne _ _ _ (by decide), mW_ne _ _ _ (by decide), mW_off _ _ (by decide), mW_off _ _ (by decide), mW_off _ _ (by decide), mW_at]
  have v12 : hdC C 109 12 = -1 := by
    unfold hdC
    rw [mW_ne _ _ _ (by decide), mW_ne _ _ _ (by decide), mW_off _ _ (by decide), mW_off _ _ (by decide), mW_at]
  have w2 : hdC C 114 2 = 0 := by
    unfold hdC
    rw [mW_off _ _ (by decide), mW_at]
  have w3 : hdC C 114 3 = 0 := by
    unfold hdC
    rw [mW_at]
  obtain ⟨z1, J, P, s1, s2, s3, s4, s5, s6, s7, s8, s9, s10⟩ := split_C (C := hdC C) hn (fun i hi => ⟨(ht i hi).1, by rw [hd 110 (by decide) (by decide)]; exact (ht i hi).2⟩) (by rw [h9 1 (by decide) (by decide) (by decide) (by decide)]; exact c1)
  have hT' : TapM (mW (hdM M) 119 28 0) t n := TapM_to hT (by rw [mW_off _ _ (by decide), hdM_k M (by decide)]) (by rw [mW_ne _ _ _ (by decide), hdM_r M (by decide)]) (by rw [mW_ne _ _ _ (by decide), hdM_r M (by decide)])
  obtain ⟨Ms, κ, v, s, e, r1, r2, r3, r4, r5, r6, r7⟩ := reads_M (p := 0) hT' (Nat.zero_le _) (by rw [mW_off _ _ (by decide)]; exact (hdM_v M).2.2.1)
  obtain ⟨x, x1, x2, x3, x4⟩ := s3.2 0 (by omega)
  rw [s3.1] at x1
  obtain ⟨e1, e2, e3, e4⟩ := Tok_uniq r2 x1
  subst e1 e2 e3 e4
  have g : ∀ k, k ≠ 0 → ¬ (16 ≤ k ∧ k ≤ 19) → ¬ (28 ≤ k ∧ k ≤ 30) → k ≠ 35 → k ≠ 36 → Ms 119 k = M 119 k := fun k a b c d e => by rw [r7 k (by omega) (by omega) (by omega) (by omega), mW_off _ _ (by omega), hdM_k M (by omega)]
  have gv : ∀ k, ¬ (16 ≤ k ∧ k ≤ 19) → k ≠ 28 → Ms 119 k = hdM M 119 k := fun k a b => by rw [r7 k (by omega) (by omega) (by omega) (by omega), mW_off _ _ b]
  refine ⟨z1, Ms, J, P, s1, r1, ⟨⟨s2, ?_, ?_, ?_, ?_⟩, TapM_to hT' (r7 15 (by decide) (by decide) (by decide) (by decide)) (r6 129 (by decide)) (r6 130 (by decide)), Nat.zero_le _, ?_, ?_, ?_, r5⟩, ⟨?_, ?_, ?_, ?_, ?_, ?_, ?_, mW_at _ _ _ _⟩, fun a ha => ?_, fun a ha => by rw [r6 a ha, mW_ne _ _ _ ha, hdM_r M ha], g, ?_, ?_, ?_, ?_, ?_⟩
  · unfold TkC
    rw [mW_ne _ _ _ (show 111 ≠ 109 by decide), mW_ne _ _ _ (show 112 ≠ 109 by decide), mW_ne _ _ _ (show 113 ≠ 109 by decide)]
    exact s3
  · rw [mW_ne _ _ _ (by decide)]; exact s4
  · intro i hi
    rw [mW_ne _ _ _ (by decide)]; exact s5 i hi
  · rw [mW_off _ _ (by decide)]; exact s6
  · rw [mW_off _ _ (by decide)]; exact s7
  · rw [mW_ne _ _ _ (by decide), mW_ne _ _ _ (by decide)]; exact r3
  · rw [mW_ne _ _ _ (by decide), r4, x2]
  · rw [mW_ne _ _ _ (by decide), s9 114 (by decide) (by decide) (by decide) (by decide), w2]
  · rw [mW_ne _ _ _ (by decide), s9 114 (by decide) (by decide) (by decide) (by decide), w3]
  · rw [mW_off _ _ (by decide), s10 11 (by decide) (by decide) (by decide), v11]
  · rw [mW_off _ _ (by decide), s10 12 (by decide) (by decide) (by decide), v12]
  · rw [mW_off _ _ (by decide), s8]
  · rw [mW_off _ _ (by decide), s10 8 (by decide) (by decide) (by decide), v8]
  · rw [mW_off _ _ (by decide), s10 9 (by decide) (by decide) (by decide), v9]
  · rw [mW_ne _ _ _ (by omega), s9 a (by omega) (by omega) (by omega) (by omega), hd a (by omega) (by omega)]
  · rw [r7 28 (by decide) (by decide) (by decide) (by decide), mW_at]
  · rw [gv 29 (by omega) (by decide), (hdM_v M).2.2.2.1]
  · rw [gv 30 (by omega) (by decide), (hdM_v M).2.2.2.2]
  · rw [gv 35 (by omega) (by decide), (hdM_v M).1]
  · rw [gv 36 (by omega) (by decide), (hdM_v M).2.1]
/-! what text leaves -/
def TxC (C C' : mI) (S : Nat → Prop) : Prop := (∀ a, ¬ (109 ≤ a ∧ a ≤ 116 ∧ a ≠ 110) → ¬ S a → C' a = C a) ∧ C' 109 1 = 0
def TxM (M M' : mI) (S : Nat → Prop) (T : Nat → Prop) : Prop := (∀ a i, a ≠ 119 → ¬ Sf a i → ¬ S a → M' a i = M a i) ∧ (∀ k, k ≠ 0 → ¬ (15 ≤ k ∧ k ≤ 19) → ¬ (28 ≤ k ∧ k ≤ 36) → ¬ T k → M' 119 k = M 119 k) ∧ M' 119 15 = 0
def TxR (C C' M M' : mI) : Prop := (C' 109 11 = M' 119 35 ∧ C' 109 12 = M' 119 36) ∧ ((TxC C C' (fun _ => False) ∧ TxM M M' (fun _ => False) (fun _ => False)) ∨ (TxC C C' (fun a => 15 ≤ a ∧ a ≤ 17) ∧ TxM M M' (fun a => 131 ≤ a ∧ a ≤ 137) (fun _ => False) ∧ RelLaw (C' 15) (C' 16) (C' 17) (M' 131 0) (M' 132) (M' 133) (M' 134) (M' 135) (M' 136) (M' 137)) ∨ (TxC C C' (fun a => (18 ≤ a ∧ a ≤ 20) ∨ a = 77) ∧ (C' 77 = mU (C 77) 2 0 ∧ C' 18 3 = 0) ∧ TxM M M' (fun a => a = 139) (fun k => k = 37 ∨ k = 3) ∧ M' 119 3 = 0 ∧ RelP (C' 18) (C' 19) (M' 119 37) (M' 119 6) (M' 119 7) (M' 139)) ∨ (TxC C C' (fun a => (21 ≤ a ∧ a ≤ 23) ∨ a = 77) ∧ (C' 77 = mU (C 77) 2 0 ∧ C' 21 3 = 0) ∧ TxM M M' (fun a => a = 140) (fun k => k = 39 ∨ k = 3) ∧ M' 119 3 = 0 ∧ RelK (C' 21) (C' 22) (M' 119 39) (M' 140)) ∨ (TxC C C' (fun a => 24 ≤ a ∧ a ≤ 26) ∧ C' 24 3 = 0 ∧ TxM M M' (fun a => a = 141) (fun k => k = 41) ∧ RelL (C' 24) (C' 25) (M' 119 41) (M' 119 6) (M' 141)))
theorem rs_text {C z1 : mI} (h : r4_splitTape (hdC C) = some z1) (x : Int32) : r4_readScript C x = if x < 0 then some (-1, mW z1 109 1 0) else if x ≤ 3 then (l4_readScript_55 x FU 0 (mW z1 109 1 0)).bind fun z2 => (if z2 109 11 = 0 then some (z2 114 2) else some (-1) : Option Int32).bind fun z3 => some (z3, z2) else some (-1, mW z1 109 1 0) := by
  have e : r6_clear_114 (mW (mW (mW (mW C 109 11 0) 109 12 (-1)) 109 8 (C 8 6)) 109 9 (C 8 7)) = some (hdC C) := rfl
  unfold r4_readScript
  rw [e, Option.bind_some, h, Option.bind_some]
theorem rs_ok {C z1 C' : mI} (h : r4_splitTape (hdC C) = some z1) {x : Int32} (h0 : ¬ x < 0) (h3 : x ≤ 3) {n : Nat} (hl : l4_readScript_55 x FU 0 (mW z1 109 1 0) = some C') (h11 : C' 109 11 = 0) (h2 : C' 114 2 = nI n) : r4_readScript C x = some (nI n, C') := by
  rw [rs_text h, if_neg h0, if_pos h3, hl, Option.bind_some, if_pos h11, Option.bind_some, h2]
theorem rs_bad {C z1 C' : mI} (h : r4_splitTape (hdC C) = some z1) {x : Int32} (h0 : ¬ x < 0) (h3 : x ≤ 3) (hl : l4_readScript_55 x FU 0 (mW z1 109 1 0) = some C') (h11 : ¬ C' 109 11 = 0) : r4_readScript C x = some (-1, C') := by
  rw [rs_text h, if_neg h0, if_pos h3, hl, Option.bind_some, if_neg h11, Option.bind_some]
theorem tx_no {C C' : mI} {x : Int32} (h : r4_readScript C x = some (-1, C')) : r9_text C x = some (-1, C') := by
  unfold r9_text
  rw [h, Option.bind_some]
  dsimp only
  simp only [reduceIte, ite_self]
theorem tm_no {M M' : mI} {x : Int32} (hi : r10_isIn x 0 3 = 1) (h : r10_readsText (hdM M) x = some (-1, M')) : r10_text M x = some (-1, mW (mW (mW M' 119 35 (M' 119 33)) 119 36 (M' 119 34)) 119 15 0) := by
  have h : r10_readsText (mW (mW (mW (mW (mW (mW M 119 0 0) 119 35 0) 119 36 (-1)) 119 16 0) 119 29 0) 119 30 0) x = some (-1, M') := h
  unfold r10_text
  rw [if_neg (by rw [hi]; exact one_n0), h, Option.bind_some]
  dsimp only
  rw [if_pos rfl, Option.bind_some]
  dsimp only
  rw [if_pos rfl]
theorem tm_ok {M M' : mI} {x : Int32} {n : Nat} (hn : n ≤ 16) (hi : r10_isIn x 0 3 = 1) (h : r10_readsText (hdM M) x = some (nI n, M')) : r10_text M x = (if x = 0 then (r10_takesLaw (mW M' 119 15 0) (nI n)).bind fun z4 => some z4 else (r10_takesOther (mW M' 119 15 0) x (nI n)).bind fun z3 => some z3 : Option mI).bind fun z2 => some (nI n, z2) := by
  have h : r10_readsText (mW (mW (mW (mW (mW (mW M 119 0 0) 119 35 0) 119 36 (-1)) 119 16 0) 119 29 0) 119 30 0) x = some (nI n, M') := h
  unfold r10_text
  rw [if_neg (by rw [hi]; exact one_n0), h, Option.bind_some]
  dsimp only
  rw [if_neg (nI_m1 (by omega)), Option.bind_some]
  dsimp only
  rw [if_neg (nI_m1 (by omega))]
/-- a text that is not taken -/
theorem tx_fail {C M z1 C' Ms M' : mI} {x : Int32} (hi : r10_isIn x 0 3 = 1) (h0 : ¬ x < 0) (h3 : x ≤ 3) (hz : r4_splitTape (hdC C) = some z1) (fC : ∀ a, ¬ (109 ≤ a ∧ a ≤ 116 ∧ a ≠ 110) → (mW z1 109 1 0) a = C a) (f1 : (mW z1 109 1 0) 109 1 = 0) (fM : ∀ a, a ≠ 119 → Ms a = M a) (fk : ∀ k, k ≠ 0 → ¬ (16 ≤ k ∧ k ≤ 19) → ¬ (28 ≤ k ∧ k ≤ 30) → k ≠ 35 → k ≠ 36 → Ms 119 k = M 119 k) (hl : l4_readScript_55 x FU 0 (mW z1 109 1 0) = some C') (hr : r10_readsText (hdM M) x = some (-1, M')) (hf : Flt C' M') (gC : FrC (mW z1 109 1 0) C') (gM : FrM Ms M') : ∃ v C' M', r9_text C x = some (v, C') ∧ r10_text M x = some (v, M') ∧ TxR C C' M M' := by
  refine ⟨-1, C', _, tx_no (rs_bad hz h0 h3 hl hf.1), tm_no hi hr, ⟨?_, ?_⟩, .inl ⟨⟨fun a ha _ => ?_, ?_⟩, fun a i ha hs _ => ?_, fun k a b c _ => ?_, mW_at _ _ _ _⟩⟩
  · rw [mW_off _ _ (by decide), mW_off _ _ (by decide), mW_at]; exact hf.2.1
  · rw [mW_off _ _ (by decide), mW_at]; exact hf.2.2
  · rw [gC.1 a (by omega), fC a ha]
  · rw [gC.2 1 (by decide) (by decide) (by decide) (by decide), f1]
  · rw [mW_ne _ _ _ ha, mW_ne _ _ _ ha, mW_ne _ _ _ ha, gM.1 a i ha hs, fM a ha]
  · rw [mW_off _ _ (by omega), mW_off _ _ (by omega), mW_off _ _ (by omega), gM.2 k (by omega) (by omega), fk k a (by omega) (by omega) (by omega) (by omega)]

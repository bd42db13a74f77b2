/-! TEXT kept -/
theorem text_inv {I I2 : mI} {s : Nat} (hI : Inv I s) (h1 : ∀ a, a < 109 → ¬ (15 ≤ a ∧ a ≤ 26) → a ≠ 77 → I2 a = I a) (h110 : I2 110 = I 110) (hm : ∀ a, 119 < a → ¬ (131 ≤ a ∧ a ≤ 141) → I2 a = I a) (hk : ∀ k, (k = 5 ∨ k = 6 ∨ k = 7 ∨ k = 48 ∨ k = 53 ∨ k = 59) → I2 119 k = I 119 k) (z18 : I2 18 3 = 0) (z21 : I2 21 3 = 0) (z24 : I2 24 3 = 0) (hU : RelU I2) (hP : RelP (I2 18) (I2 19) (I2 119 37) (I2 119 6) (I2 119 7) (I2 139)) (hK : RelK (I2 21) (I2 22) (I2 119 39) (I2 140)) (hL : RelL (I2 24) (I2 25) (I2 119 41) (I2 119 6) (I2 141)) (hLaw : RelLaw (I2 15) (I2 16) (I2 17) (I2 131 0) (I2 132) (I2 133) (I2 134) (I2 135) (I2 136) (I2 137)) (t1 : I2 109 1 = 0) (t2 : I2 119 15 = 0) (f1 : I2 109 11 = I2 119 35) (f2 : I2 109 12 = I2 119 36) : Inv I2 s := by
  obtain ⟨⟨w1, w2, _, _, _, _, w7, w8⟩, _, hIm, ⟨n, hn, _, _, eT, bT⟩, _, ⟨x5, xw⟩, hs⟩ := hI
  refine ⟨⟨?_, ?_, hP, ⟨hK, z18, z21, z24⟩, hL, hLaw, ?_, ?_⟩, hU, ?_, ⟨0, by decide, t1, t2, ?_, ?_⟩, ⟨f1, f2⟩, ⟨?_, ?_⟩, hs⟩
  · rw [h1 3 (by decide) (by omega) (by decide), h1 4 (by decide) (by omega) (by decide), h1 5 (by decide) (by omega) (by decide), h1 6 (by decide) (by omega) (by decide), h1 7 (by decide) (by omega) (by decide), hm 120 (by decide) (by omega), hk 6 (by omega), hk 7 (by omega)]
    exact w1
  · rw [h1 8 (by decide) (by omega) (by decide), h1 9 (by decide) (by omega) (by decide), h1 10 (by decide) (by omega) (by decide), h1 11 (by decide) (by omega) (by decide), h1 12 (by decide) (by omega) (by decide), h1 13 (by decide) (by omega) (by decide), hm 123 (by decide) (by omega), hm 124 (by decide) (by omega), hm 125 (by decide) (by omega), hm 126 (by decide) (by omega), hm 127 (by decide) (by omega), hk 6 (by omega), hk 7 (by omega)]
    exact w2
  · rw [h1 27 (by decide) (by omega) (by decide), h1 28 (by decide) (by omega) (by decide), h1 29 (by decide) (by omega) (by decide), h1 30 (by decide) (by omega) (by decide), h1 31 (by decide) (by omega) (by decide), h1 32 (by decide) (by omega) (by decide), hm 146 (by decide) (by omega), hm 149 (by decide) (by omega), hm 150 (by decide) (by omega), hm 151 (by decide) (by omega), hm 152 (by decide) (by omega), hk 48 (by omega), hk 53 (by omega)]
    exact w7
  · rw [h1 34 (by decide) (by omega) (by decide), hm 128 (by decide) (by omega)]
    exact w8
  · unfold RelI at *
    rw [h1 0 (by decide) (by omega) (by decide), hk 59 (by omega), hm 154 (by decide) (by omega)]
    obtain ⟨i1, i2⟩ := hIm
    refine ⟨i1, ?_⟩
    rcases i2 with q | ⟨q1, q2⟩
    · exact .inl q
    · exact .inr ⟨q1, RelW_congr (c := fun k => I (k + 42)) (G := unf (I 154)) (fun a ha => h1 (a + 42) (by omega) (by omega) (by omega)) (fun a ha => rfl) (fun k hk => rfl) q2⟩
  · rw [h110, hm 129 (by decide) (by omega)]; exact eT
  · rw [hm 129 (by decide) (by omega)]; exact bT
  · rw [hk 5 (by omega)]; exact x5
  · rw [hm 130 (by decide) (by omega)]; exact xw
/-- what text left alone -/
theorem tx_old {I I1 I2 : mI} {S SM T : Nat → Prop} (hC : TxC I I1 S) (hM : TxM I1 I2 SM T) (hS : ∀ a, S a → a < 109) (hSM : ∀ a, SM a → 131 ≤ a ∧ a ≤ 141) : (∀ a, a < 119 → I2 a = I1 a) ∧ (∀ a, a < 109 → ¬ S a → I2 a = I a) ∧ I2 110 = I 110 ∧ (∀ a i, 119 < a → ¬ Sf a i → ¬ SM a → I2 a i = I a i) ∧ (∀ a, 119 < a → ¬ (131 ≤ a ∧ a ≤ 141) → I2 a = I a) ∧ (∀ k, k ≠ 0 → ¬ (15 ≤ k ∧ k ≤ 19) → ¬ (28 ≤ k ∧ k ≤ 36) → ¬ T k → I2 119 k = I 119 k) ∧ I2 109 1 = 0 ∧ I2 119 15 = 0 := by
  have lo : ∀ a, a < 119 → I2 a = I1 a := fun a ha => by
    funext i
    exact hM.1 a i (by omega) (by unfold Sf; omega) (fun q => by have := hSM a q; omega)
  have hi : ∀ a, 119 ≤ a → I1 a = I a := fun a ha => hC.1 a (by omega) (fun q => by have := hS a q; omega)
  have big : ∀ a i, 119 < a → ¬ Sf a i → ¬ SM a → I2 a i = I a i := fun a i ha hs hsm => by rw [hM.1 a i (by omega) hs hsm, hi a (by omega)]
  refine ⟨lo, fun a ha hs => by rw [lo a (by omega), hC.1 a (by omega) hs], by rw [lo 110 (by decide), hC.1 110 (by omega) (fun q => by have := hS _ q; omega)], big, fun a h1 h2 => ?_, fun k a b c d => by rw [hM.2.1 k a b c d, hi 119 (by decide)], by rw [lo 109 (by decide)]; exact hC.2, hM.2.2⟩
  funext i
  exact big a i h1 (by unfold Sf; omega) (fun q => h2 (hSM a q))
theorem op_text : S_text Inv := by
  intro I s hI x
  have hI' := hI
  obtain ⟨⟨w1, ⟨⟨c6, c7, _⟩, ⟨np, hnp, enp⟩, ⟨nq, hnq, enq⟩, _⟩, hP, ⟨hK, z18, z21, z24⟩, hL, hLaw, w7, w8⟩, hU, hIm, ⟨n, hn, e1, e2, eT, bT⟩, hF, ⟨x5, xw⟩, hs⟩ := hI'
  have ht : ∀ i, i < 400 → (I 129 i).toNatClampNeg ≤ 255 ∧ I 129 i = nI (I 129 i).toNatClampNeg := fun i hi => by
    obtain ⟨k, hk, ek⟩ := bT i hi
    rw [ek, nI_clamp (by omega)]
    exact ⟨hk, rfl⟩
  have mk : ∀ M : mI, (∀ a, 119 ≤ a → M a = I a) → TxH I M (fun i => (I 129 i).toNatClampNeg) n np nq := fun M hM => by
    refine ⟨hn, e1, fun i hi => ⟨(ht i hi).1, by rw [eT i hi]; exact (ht i hi).2⟩, ⟨hn, by rw [hM 119 (by decide)]; exact e2, fun i hi => ⟨(ht i hi).1, by rw [hM 129 (by decide)]; exact (ht i hi).2⟩, by rw [hM 130 (by decide)]; exact xw⟩, hnp, hnq, ⟨by rw [c6, enp], by rw [c7, enq]⟩, by rw [hM 119 (by decide)]; exact enp, by rw [hM 119 (by decide)]; exact enq⟩
  obtain ⟨v, I1, M', r1, _, T1⟩ := text_s (mk I (fun _ _ => rfl)) x
  have up : ∀ a, 119 ≤ a → I1 a = I a := fun a ha => by
    rcases T1.2 with ⟨q, _⟩ | ⟨q, _⟩ | ⟨q, _⟩ | ⟨q, _⟩ | ⟨q, _⟩
    · exact q.1 a (by omega) (fun z => z)
    · exact q.1 a (by omega) (by omega)
    · exact q.1 a (by omega) (by omega)
    · exact q.1 a (by omega) (by omega)
    · exact q.1 a (by omega) (by omega)
  obtain ⟨v', C', I2, q1, q2, T2⟩ := text_s (mk I1 up) x
  rw [r1] at q1
  have ev := Option.some.inj q1
  have ev1 : v = v' := congrArg Prod.fst ev
  have ev2 : I1 = C' := congrArg Prod.snd ev
  subst ev1 ev2
  refine ⟨v, I1, I2, r1, q2, ?_⟩
  obtain ⟨⟨fa, fb⟩, TT⟩ := T2
  rcases TT with ⟨hC, hM⟩ | ⟨hC, hM, nw⟩ | ⟨hC, ⟨c77, c3⟩, hM, m3, nw⟩ | ⟨hC, ⟨c77, c3⟩, hM, m3, nw⟩ | ⟨hC, c3, hM, nw⟩
  · obtain ⟨lo, cl, k110, mr, mm, mk, t1, t2⟩ := tx_old hC hM (fun _ q => q.elim) (fun _ q => q.elim)
    have cl : ∀ a, a < 109 → I2 a = I a := fun a ha => cl a ha (fun q => q)
    have mk : ∀ k, k ≠ 0 → ¬ (15 ≤ k ∧ k ≤ 19) → ¬ (28 ≤ k ∧ k ≤ 36) → I2 119 k = I 119 k := fun k a b c => mk k a b c (fun q => q)
    have mr : ∀ a i, 119 < a → ¬ Sf a i → I2 a i = I a i := fun a i p q => mr a i p q (fun z => z)
    refine text_inv hI (fun a ha _ _ => cl a ha) k110 mm (fun k hk => mk k (by omega) (by omega) (by omega)) (by rw [cl 18 (by decide)]; exact z18) (by rw [cl 21 (by decide)]; exact z21) (by rw [cl 24 (by decide)]; exact z24) (RelU_congr (fun a _ ha => cl a ha) (mm 121 (by decide) (by omega)) (mk 3 (by decide) (by omega) (by omega)) (mk 6 (by decide) (by omega) (by omega)) (mk 7 (by decide) (by omega) (by omega)) hU) ?_ ?_ ?_ ?_ t1 t2 (by rw [lo 109 (by decide)]; exact fa) (by rw [lo 109 (by decide)]; exact fb)
    · rw [cl 18 (by decide), cl 19 (by decide), mk 37 (by decide) (by omega) (by omega), mk 6 (by decide) (by omega) (by omega), mk 7 (by decide) (by omega) (by omega)]
      exact RelP_rg hP rfl (fun _ _ => rfl) (fun i hi => mr 139 i (by decide) (by unfold Sf; omega))
    · rw [cl 21 (by decide), cl 22 (by decide), mk 39 (by decide) (by omega) (by omega)]
      exact RelK_rg hK rfl (fun _ _ => rfl) (fun i hi => mr 140 i (by decide) (by unfold Sf; omega))
    · rw [cl 24 (by decide), cl 25 (by decide), mk 41 (by decide) (by omega) (by omega), mk 6 (by decide) (by omega) (by omega)]
      exact RelL_rg hL rfl (fun _ _ => rfl) (fun i hi => mr 141 i (by decide) (by unfold Sf; omega))
    · rw [cl 15 (by decide), cl 16 (by decide), cl 17 (by decide), mr 131 0 (by decide) (by unfold Sf; omega)]
      exact RelLaw_rg hLaw rfl rfl (fun _ _ => rfl) (fun _ _ _ _ _ => rfl) (fun i hi => mr 132 i (by decide) (by unfold Sf; omega)) (fun i hi => mr 133 i (by decide) (by unfold Sf; omega)) (fun i hi => mr 134 i (by decide) (by unfold Sf; omega)) (fun i hi => mr 135 i (by decide) (by unfold Sf; omega)) (fun i hi => mr 136 i (by decide) (by unfold Sf; omega)) (fun i hi => mr 137 i (by decide) (by unfold Sf; omega))
  · obtain ⟨lo, cl, k110, mr, mm, mk, t1, t2⟩ := tx_old hC hM (fun a q => by omega) (fun a q => by omega)
    have mk : ∀ k, k ≠ 0 → ¬ (15 ≤ k ∧ k ≤ 19) → ¬ (28 ≤ k ∧ k ≤ 36) → I2 119 k = I 119 k := fun k a b c => mk k a b c (fun q => q)
    refine text_inv hI (fun a ha hb _ => cl a ha (by omega)) k110 mm (fun k hk => mk k (by omega) (by omega) (by omega)) (by rw [cl 18 (by decide) (by omega)]; exact z18) (by rw [cl 21 (by decide) (by omega)]; exact z21) (by rw [cl 24 (by decide) (by omega)]; exact z24) (RelU_congr (fun a hb ha => cl a ha (by omega)) (mm 121 (by decide) (by omega)) (mk 3 (by decide) (by omega) (by omega)) (mk 6 (by decide) (by omega) (by omega)) (mk 7 (by decide) (by omega) (by omega)) hU) ?_ ?_ ?_ ?_ t1 t2 (by rw [lo 109 (by decide)]; exact fa) (by rw [lo 109 (by decide)]; exact fb)
    · rw [cl 18 (by decide) (by omega), cl 19 (by decide) (by omega), mk 37 (by decide) (by omega) (by omega), mk 6 (by decide) (by omega) (by omega), mk 7 (by decide) (by omega) (by omega)]
      exact RelP_rg hP rfl (fun _ _ => rfl) (fun i hi => mr 139 i (by decide) (by unfold Sf; omega) (by omega))
    · rw [cl 21 (by decide) (by omega), cl 22 (by decide) (by omega), mk 39 (by decide) (by omega) (by omega)]
      exact RelK_rg hK rfl (fun _ _ => rfl) (fun i hi => mr 140 i (by decide) (by unfold Sf; omega) (by omega))
    · rw [cl 24 (by decide) (by omega), cl 25 (by decide) (by omega), mk 41 (by decide) (by omega) (by omega), mk 6 (by decide) (by omega) (by omega)]
      exact RelL_rg hL rfl (fun _ _ => rfl) (fun i hi => mr 141 i (by decide) (by unfold Sf; omega) (by omega))
    · rw [lo 15 (by decide), lo 16 (by decide), lo 17 (by decide)]
      exact nw
  · obtain ⟨lo, cl, k110, mr, mm, mk, t1, t2⟩ := tx_old hC hM (fun a q => by omega) (fun a q => by omega)
    obtain ⟨f, hf, ef⟩ := RelU_first hU
    refine text_inv hI (fun a ha hb hc => cl a ha (by omega)) k110 mm (fun k hk => mk k (by omega) (by omega) (by omega) (by omega)) (by rw [lo 18 (by decide)]; exact c3) (by rw [cl 21 (by decide) (by omega)]; exact z21) (by rw [cl 24 (by decide) (by omega)]; exact z24) (RelU_zero hf (by rw [lo 77 (by decide), c77, mU_eq]) m3 (by rw [lo 77 (by decide), c77, mU_ne _ _ (by decide)]; exact ef)) ?_ ?_ ?_ ?_ t1 t2 (by rw [lo 109 (by decide)]; exact fa) (by rw [lo 109 (by decide)]; exact fb)
    · rw [lo 18 (by decide), lo 19 (by decide)]
      exact nw
    · rw [cl 21 (by decide) (by omega), cl 22 (by decide) (by omega), mk 39 (by decide) (by omega) (by omega) (by omega)]
      exact RelK_rg hK rfl (fun _ _ => rfl) (fun i hi => mr 140 i (by decide) (by unfold Sf; omega) (by omega))
    · rw [cl 24 (by decide) (by omega), cl 25 (by decide) (by omega), mk 41 (by decide) (by omega) (by omega) (by omega), mk 6 (by decide) (by omega) (by omega) (by omega)]
      exact RelL_rg hL rfl (fun _ _ => rfl) (fun i hi => mr 141 i (by decide) (by unfold Sf; omega) (by omega))
    · rw [cl 15 (by decide) (by omega), cl 16 (by decide) (by omega), cl 17 (by decide) (by omega), mr 131 0 (by decide) (by unfold Sf; omega) (by omega)]
      exact RelLaw_rg hLaw rfl rfl (fun _ _ => rfl) (fun _ _ _ _ _ => rfl) (fun i hi => mr 132 i (by decide) (by unfold Sf; omega) (by omega)) (fun i hi => mr 133 i (by decide) (by unfold Sf; omega) (by omega)) (fun i hi => mr 134 i (by decide) (by unfold Sf; omega) (by omega)) (fun i hi => mr 135 i (by decide) (by unfold Sf; omega) (by omega)) (fun i hi => mr 136 i (by decide) (by unfold Sf; omega) (by omega)) (fun i hi => mr 137 i (by decide) (by unfold Sf; omega) (by omega))
  · obtain ⟨lo, cl, k110, mr, mm, mk, t1, t2⟩ := tx_old hC hM (fun a q => by omega) (fun a q => by omega)
    obtain ⟨f, hf, ef⟩ := RelU_first hU
    refine text_inv hI (fun a ha hb hc => cl a ha (by omega)) k110 mm (fun k hk => mk k (by omega) (by omega) (by omega) (by omega)) (by rw [cl 18 (by decide) (by omega)]; exact z18) (by rw [lo 21 (by decide)]; exact c3) (by rw [cl 24 (by decide) (by omega)]; exact z24) (RelU_zero hf (by rw [lo 77 (by decide), c77, mU_eq]) m3 (by rw [lo 77 (by decide), c77, mU_ne _ _ (by decide)]; exact ef)) ?_ ?_ ?_ ?_ t1 t2 (by rw [lo 109 (by decide)]; exact fa) (by rw [lo 109 (by decide)]; exact fb)
    · rw [cl 18 (by decide) (by omega), cl 19 (by decide) (by omega), mk 37 (by decide) (by omega) (by omega) (by omega), mk 6 (by decide) (by omega) (by omega) (by omega), mk 7 (by decide) (by omega) (by omega) (by omega)]
      exact RelP_rg hP rfl (fun _ _ => rfl) (fun i hi => mr 139 i (by decide) (by unfold Sf; omega) (by omega))
    · rw [lo 21 (by decide), lo 22 (by decide)]
      exact nw
    · rw [cl 24 (by decide) (by omega), cl 25 (by decide) (by omega), mk 41 (by decide) (by omega) (by omega) (by omega), mk 6 (by decide) (by omega) (by omega) (by omega)]
      exact RelL_rg hL rfl (fun _ _ => rfl) (fun i hi => mr 141 i (by decide) (by unfold Sf; omega) (by omega))
    · rw [cl 15 (by decide) (by omega), cl 16 (by decide) (by omega), cl 17 (by decide) (by omega), mr 131 0 (by decide) (by unfold Sf; omega) (by omega)]
      exact RelLaw_rg hLaw rfl rfl (fun _ _ => rfl) (fun _ _ _ _ _ => rfl) (fun i hi => mr 132 i (by decide) (by unfold Sf; omega) (by omega)) (fun i hi => mr 133 i (by decide) (by unfold Sf; omega) (by omega)) (fun i hi => mr 134 i (by decide) (by unfold Sf; omega) (by omega)) (fun i hi => mr 135 i (by decide) (by unfold Sf; omega) (by omega)) (fun i hi => mr 136 i (by decide) (by unfold Sf; omega) (by omega)) (fun i hi => mr 137 i (by decide) (by unfold Sf; omega) (by omega))
  · obtain ⟨lo, cl, k110, mr, mm, mk, t1, t2⟩ := tx_old hC hM (fun a q => by omega) (fun a q => by omega)
    refine text_inv hI (fun a ha hb _ => cl a ha (by omega)) k110 mm (fun k hk => mk k (by omega) (by omega) (by omega) (by omega)) (by rw [cl 18 (by decide) (by omega)]; exact z18) (by rw [cl 21 (by decide) (by omega)]; exact z21) (by rw [lo 24 (by decide)]; exact c3) (RelU_congr (fun a hb ha => cl a ha (by omega)) (mm 121 (by decide) (by omega)) (mk 3 (by decide) (by omega) (by omega) (by omega)) (mk 6 (by decide) (by omega) (by omega) (by omega)) (mk 7 (by decide) (by omega) (by omega) (by omega)) hU) ?_ ?_ ?_ ?_ t1 t2 (by rw [lo 109 (by decide)]; exact fa) (by rw [lo 109 (by decide)]; exact fb)
    · rw [cl 18 (by decide) (by omega), cl 19 (by decide) (by omega), mk 37 (by decide) (by omega) (by omega) (by omega), mk 6 (by decide) (by omega) (by omega) (by omega), mk 7 (by decide) (by omega) (by omega) (by omega)]
      exact RelP_rg hP rfl (fun _ _ => rfl) (fun i hi => mr 139 i (by decide) (by unfold Sf; omega) (by omega))
    · rw [cl 21 (by decide) (by omega), cl 22 (by decide) (by omega), mk 39 (by decide) (by omega) (by omega) (by omega)]
      exact RelK_rg hK rfl (fun _ _ => rfl) (fun i hi => mr 140 i (by decide) (by unfold Sf; omega) (by omega))
    · rw [lo 24 (by decide), lo 25 (by decide)]
      exact nw
    · rw [cl 15 (by decide) (by omega), cl 16 (by decide) (by omega), cl 17 (by decide) (by omega), mr 131 0 (by decide) (by unfold Sf; omega) (by omega)]
      exact RelLaw_rg hLaw rfl rfl (fun _ _ => rfl) (fun _ _ _ _ _ => rfl) (fun i hi => mr 132 i (by decide) (by unfold Sf; omega) (by omega)) (fun i hi => mr 133 i (by decide) (by unfold Sf; omega) (by omega)) (fun i hi => mr 134 i (by decide) (by unfold Sf; omega) (by omega)) (fun i hi => mr 135 i (by decide) (by unfold Sf; omega) (by omega)) (fun i hi => mr 136 i (by decide) (by unfold Sf; omega) (by omega)) (fun i hi => mr 137 i (by decide) (by unfold Sf; omega) (by omega))

/-! THE BEGINNING -/
theorem IQ_row0 {n : Nat} (h : ((evI.take 280).all (fun q => q.1 != n)) = true) : IQ 280 n = fun _ => 0 := by
  have := congrFun (IQ_new (e := 280) (n := n) h) n
  rw [mU_eq] at this
  exact this.symm
theorem bd_0 (n : Nat) : bd 0 n := ⟨0, by omega, rfl⟩
theorem bd_at {x : Int32} {n : Nat} (h : x = 0) : bd x n := by rw [h]; exact bd_0 n
theorem init_f : (IQ 280 3 4 = IQ 280 120 3 ∧ IQ 280 3 5 = IQ 280 120 4 ∧ IQ 280 3 6 = IQ 280 120 5 + 10 ∧ IQ 280 3 7 = IQ 280 120 6 ∧ IQ 280 3 8 = IQ 280 120 7 ∧ IQ 280 3 9 = IQ 280 120 8 ∧ IQ 280 3 10 = IQ 280 120 0 ∧ IQ 280 3 11 = IQ 280 120 1 ∧ IQ 280 3 12 = IQ 280 120 2) := by decide +kernel
theorem init_120 : ∀ k, k < 47 → 2 ≤ k → IQ 280 120 k = 0 := by decide +kernel
theorem init_119 : IQ 280 119 6 = 0 ∧ IQ 280 119 7 = 0 ∧ IQ 280 119 37 = 0 ∧ IQ 280 119 39 = 0 ∧ IQ 280 119 41 = 0 ∧ IQ 280 119 48 = 0 ∧ IQ 280 119 53 = 0 ∧ IQ 280 119 3 = 0 ∧ IQ 280 119 5 = 0 ∧ IQ 280 119 15 = 0 ∧ IQ 280 119 59 = 0 := by decide +kernel
theorem init_c : IQ 280 8 6 = 0 ∧ IQ 280 8 7 = 0 ∧ IQ 280 18 2 = 0 ∧ IQ 280 18 3 = 0 ∧ IQ 280 21 2 = 0 ∧ IQ 280 21 3 = 0 ∧ IQ 280 24 2 = 0 ∧ IQ 280 24 3 = 0 ∧ IQ 280 15 2 = 0 ∧ IQ 280 15 3 = 0 ∧ IQ 280 27 5 = 0 ∧ IQ 280 27 6 = 0 ∧ IQ 280 77 1 = 0 ∧ IQ 280 77 2 = 0 ∧ IQ 280 0 3 = 0 ∧ IQ 280 109 1 = 0 ∧ IQ 280 131 0 = 0 := by decide +kernel
theorem init_fault : IQ 280 109 11 = IQ 280 119 35 ∧ IQ 280 109 12 = IQ 280 119 36 := by decide +kernel
theorem init_per : ∀ k, k < 8 → IQ 280 29 k = IQ 280 149 k + 1 ∧ IQ 280 149 k = 0 := by decide +kernel
theorem init_words : ∀ a, a < 12 → ∀ b, b < 12 → 12 * a + b < 143 → IQ 280 130 (12 * a + b) = mWords.getD (12 * a + b) 0 := by decide +kernel
theorem inv_init : Inv (IQ 280) 3 := by
  obtain ⟨n6, n7, n37, n39, n41, n48, n53, n3, n5, n15, n59⟩ := init_119
  obtain ⟨c86, c87, c182, c183, c212, c213, c242, c243, c152, c153, c275, c276, c771, c772, c03, c1091, c131⟩ := init_c
  have z : ∀ n, ((evI.take 280).all (fun q => q.1 != n)) = true → ∀ k, IQ 280 n k = 0 := fun n h k => by rw [IQ_row0 h]
  have z4 := z 4 (by decide +kernel)
  have z5 := z 5 (by decide +kernel)
  have z6 := z 6 (by decide +kernel)
  have z7 := z 7 (by decide +kernel)
  have z9 := z 9 (by decide +kernel)
  have z10 := z 10 (by decide +kernel)
  have z11 := z 11 (by decide +kernel)
  have z12 := z 12 (by decide +kernel)
  have z13 := z 13 (by decide +kernel)
  have z28 := z 28 (by decide +kernel)
  have z30 := z 30 (by decide +kernel)
  have z31 := z 31 (by decide +kernel)
  have z32 := z 32 (by decide +kernel)
  have z34 := z 34 (by decide +kernel)
  have z110 := z 110 (by decide +kernel)
  have z123 := z 123 (by decide +kernel)
  have z124 := z 124 (by decide +kernel)
  have z125 := z 125 (by decide +kernel)
  have z126 := z 126 (by decide +kernel)
  have z127 := z 127 (by decide +kernel)
  have z128 := z 128 (by decide +kernel)
  have z129 := z 129 (by decide +kernel)
  have z141 := z 141 (by decide +kernel)
  have z146 := z 146 (by decide +kernel)
  have z150 := z 150 (by decide +kernel)
  have z151 := z 151 (by decide +kernel)
  have z152 := z 152 (by decide +kernel)
  have hW : RelW (IQ 280) (IQ 280) := by
    refine ⟨⟨⟨init_f, fun k hk => by rw [z7, init_120 _ (by omega) (by omega)], fun k hk => by rw [z4, init_120 _ (by omega) (by omega)], fun k hk => by rw [z5, init_120 _ (by omega) (by omega)], fun k hk => by rw [z6, init_120 _ (by omega) (by omega)]⟩, bd_at (init_120 2 (by omega) (by omega)), fun k hk => bd_at (init_120 _ (by omega) (by omega)), fun k hk _ => ⟨init_120 _ (by omega) (by omega), init_120 _ (by omega) (by omega)⟩, fun k hk _ => init_120 _ (by omega) (by omega)⟩, ⟨⟨by rw [c86, n6], by rw [c87, n7], fun k _ => by rw [z9, z123], fun k _ => by rw [z10, z124], fun k _ => by rw [z11, z125], fun k _ => by rw [z12, z126], fun k _ => by rw [z13, z127]⟩, bd_at n6, bd_at n7, fun k _ => bd_at (z123 k), fun k _ => bd_at (z124 k), fun k _ => bd_at (z125 k), fun k _ => bd_at (z126 k), fun k _ => bd_at (z127 k)⟩, ⟨0, by omega, n37, c182, fun l hl => absurd hl (Nat.not_lt_zero _)⟩, ⟨⟨0, by omega, n39, c212, fun l hl => absurd hl (Nat.not_lt_zero _)⟩, c183, c213, c243⟩, ⟨0, by omega, n41, c242, fun l hl => absurd hl (Nat.not_lt_zero _), fun p _ => by rw [z141]; rfl⟩, ⟨0, 0, by omega, by omega, by unfold cMi; omega, c131, c152, c153, fun i hi => absurd hi (Nat.not_lt_zero _), fun l hl => absurd hl (Nat.not_lt_zero _)⟩, ⟨⟨by rw [c275, n48], by rw [c276, n53], fun k _ => by rw [z28, z146], fun k hk => (init_per k hk).1, fun k _ => by rw [z30, z150], fun k _ => by rw [z31, z150, z151]; rfl, fun k _ => by rw [z32, z152]⟩, bd_at n48, bd_at n53, fun k _ => bd_at (z146 k), fun k hk => bd_at (init_per k hk).2, fun k _ => bd_at (z150 k), fun k _ => bd_at (z151 k), fun k _ => bd_at (z152 k)⟩, fun k _ => by rw [z34, z128]⟩
  refine ⟨hW, RelU_zero (f := 0) (by omega) c772 n3 c771, ⟨by rw [c03, n59], .inl c03⟩, ⟨0, by omega, c1091, n15, fun k _ => by rw [z110, z129], fun k _ => bd_at (z129 k)⟩, init_fault, ⟨n5, fun k hk => ?_⟩, .inl rfl⟩
  have := init_words (k / 12) (by omega) (k % 12) (by omega) (by omega)
  rw [show 12 * (k / 12) + k % 12 = k by omega] at this
  exact this

/-! TEXT: the reference reads a token -/
theorem mW_mW (I : mI) (a i : Nat) (x y : Int32) : mW (mW I a i x) a i y = mW I a i y := by
  funext b k
  rw [mW_rd, mW_rd, mW_rd]
  by_cases e : b = a
  · rw [if_pos e, if_pos e, if_pos e]
    by_cases e1 : k = i
    · rw [if_pos e1, if_pos e1]
    · rw [if_neg e1, if_neg e1, if_neg e1]
  · rw [if_neg e, if_neg e, if_neg e]
def TapM (M : mI) (t : Nat → Nat) (n : Nat) : Prop := n ≤ 400 ∧ M 119 15 = nI n ∧ (∀ i, i < 400 → t i ≤ 255 ∧ M 129 i = nI (t i)) ∧ eqOn 143 (M 130) (fun k => mWords.getD k 0)
theorem TapM_to {M M' : mI} {t : Nat → Nat} {n : Nat} (h : TapM M t n) (h1 : M' 119 15 = M 119 15) (h2 : M' 129 = M 129) (h3 : M' 130 = M 130) : TapM M' t n := by
  unfold TapM at *
  rw [h1, h2, h3]; exact h
theorem raw_e {M : mI} {t : Nat → Nat} {n p : Nat} (h : TapM M t n) (hp : p ≤ n) : r10_raw M (nI p) = some (if p < n then nI (t p) else -1) := by
  obtain ⟨hn, e, ht, _⟩ := h
  unfold r10_raw
  rw [e]
  by_cases z : p < n
  · rw [if_neg (nI_ge z (by omega)), if_pos z, mLd_n (by omega) (by decide), Option.bind_some, Option.bind_some, (ht p (by omega)).2]
  · rw [if_pos (nI_le (by omega) (by omega)), if_neg z, Option.bind_some]
def Cod (κ v a b : Int32) : Prop := (κ = 129 ∧ a = 0) ∨ (κ = 130 ∧ a = 1) ∨ (∃ w, w < 27 ∧ κ = nI w ∧ a = 2 ∧ b = κ) ∨ (κ = 128 ∧ a = 3 ∧ b = v) ∨ (∃ c, c ≤ 255 ∧ Sgn c = true ∧ κ = nI c ∧ a = 4 ∧ b = κ)
theorem blk_i {b : Nat} (h : b ≤ 255) : (Blk b = true ↔ nI b = 32 ∨ nI b = 10) := by
  unfold Blk
  rw [nI_eqk 32 32 rfl (by decide) (by omega), nI_eqk 10 10 rfl (by decide) (by omega)]
  simp
theorem reads_M {M : mI} {t : Nat → Nat} {n p : Nat} (h : TapM M t n) (hp : p ≤ n) (e16 : M 119 16 = nI p) : ∃ M' κ v s e, r10_reads M = some M' ∧ Tok t n p κ v s e ∧ Cod κ v (M' 119 18) (M' 119 19) ∧ M' 119 17 = nI s ∧ M' 119 16 = nI e ∧ (∀ a, a ≠ 119 → M' a = M a) ∧ (∀ k, k ≠ 16 → k ≠ 17 → k ≠ 18 → k ≠ 19 → M' 119 k = M 119 k) := by
  have hn := h.1
  have ht := h.2.2.1
  have at16 : ∀ (B : mI) x, (mW B 119 16 x) 119 16 = x := fun B x => mW_at _ _ _ _
  -- blanks
  have tp : ∀ x, TapM (mW M 119 16 x) t n := fun x => TapM_to h (mW_off _ _ (by decide)) (mW_ne _ _ _ (by decide)) (mW_ne _ _ _ (by decide))
  obtain ⟨s, _, hs, _, h0⟩ := stop_loop (ρ := Unit) (σ := mI) (P := fun i => Blk (t i)) (n := n) (fun f p _ => l10_reads_0 f (mW M 119 16 (nI p))) (fun _ _ => ()) (fun p _ => mW M 119 16 (nI p)) (fun _ _ => True) (fun f p r hp hP _ => by
    have b := (blk_i (ht p (by omega)).1).mp hP
    show l10_reads_0 (f + 1) _ = _
    rw [l10_reads_0, at16, raw_e (tp _) (by omega), Option.bind_some, Option.bind_some, if_pos hp, nI_1, mW_mW]
    rcases b with b | b
    · rw [if_pos b]
    · rw [if_neg (by rw [b]; decide), if_pos b]) (fun f p r hpn hx _ => by
    show l10_reads_0 (f + 1) _ = _
    rw [l10_reads_0, at16, raw_e (tp _) hpn, Option.bind_some, Option.bind_some]
    by_cases z : p < n
    · have b : ¬ (nI (t p) = 32 ∨ nI (t p) = 10) := fun q => hx ⟨z, (blk_i (ht p (by omega)).1).mpr q⟩
      rw [if_pos z, if_neg (fun q => b (.inl q)), if_neg (fun q => b (.inr q))]
    · rw [if_neg z, if_neg (by decide), if_neg (by decide)]) (fun _ _ _ _ _ => trivial) 400 p () (by omega) hp trivial
  have h0 := h0 FU (FU_lt (by omega))
  rw [mW_id e16] at h0
  have sn := Stw_le hs hp
  have z16 : (mW M 119 16 (nI s)) 119 16 = nI s := at16 _ _
  have tz := tp (nI s)
  have fz : ∀ a, a ≠ 119 → (mW M 119 16 (nI s)) a = M a := fun a ha => mW_ne _ _ _ ha
  have gz : ∀ k, k ≠ 16 → (mW M 119 16 (nI s)) 119 k = M 119 k := fun k hk => mW_off _ _ hk
  generalize mW M 119 16 (nI s) = Z at *
  -- the head
  have tB : TapM (mW (mW Z 119 17 (nI s)) 119 18 1) t n := TapM_to tz (by rw [mW_off _ _ (by decide), mW_off _ _ (by decide)]) (by rw [mW_ne _ _ _ (by decide), mW_ne _ _ _ (by decide)]) (by rw [mW_ne _ _ _ (by decide), mW_ne _ _ _ (by decide)])
  have fB : ∀ a, a ≠ 119 → (mW (mW Z 119 17 (nI s)) 119 18 1) a = M a := fun a ha => by rw [mW_ne _ _ _ ha, mW_ne _ _ _ ha, fz a ha]
  have gB : ∀ k, k ≠ 16 → k ≠ 17 → k ≠ 18 → (mW (mW Z 119 17 (nI s)) 119 18 1) 119 k = M 119 k := fun k k1 k2 k3 => by rw [mW_off _ _ k3, mW_off _ _ k2, gz k k1]
  have b17 : (mW (mW Z 119 17 (nI s)) 119 18 1) 119 17 = nI s := by rw [mW_off _ _ (by decide), mW_at]
  have b16 : (mW (mW Z 119 17 (nI s)) 119 18 1) 119 16 = nI s := by rw [mW_off _ _ (by decide), mW_off _ _ (by decide), z16]
  have b18 : (mW (mW Z 119 17 (nI s)) 119 18 1) 119 18 = 1 := mW_at _ _ _ _
  unfold r10_reads
  rw [h0, Option.bind_some, z16]
  generalize mW (mW Z 119 17 (nI s)) 119 18 1 = B at *
  rw [raw_e tB sn, Option.bind_some]
  by_cases z : s < n
  · have tb := (ht s (by omega)).1
    rw [if_pos z, if_neg (nI_m1 (by omega)), (sg_e tb).2.1, (sg_e tb).2.2.2.1, (sg_e tb).2.2.2.2, nI_1]
    -- behind the first byte
    have tD : ∀ x y, TapM (mW (mW B 119 16 x) 119 19 y) t n := fun x y => TapM_to tB (by rw [mW_off _ _ (by decide), mW_off _ _ (by decide)]) (by rw [mW_ne _ _ _ (by decide), mW_ne _ _ _ (by decide)]) (by rw [mW_ne _ _ _ (by decide), mW_ne _ _ _ (by decide)])
    have fD : ∀ x y a, a ≠ 119 → (mW (mW B 119 16 x) 119 19 y) a = M a := fun x y a ha => by rw [mW_ne _ _ _ ha, mW_ne _ _ _ ha, fB a ha]
    have gD : ∀ x y k, k ≠ 16 → k ≠ 17 → k ≠ 18 → k ≠ 19 → (mW (mW B 119 16 x) 119 19 y) 119 k = M 119 k := fun x y k k1 k2 k3 k4 => by rw [mW_off _ _ k4, mW_off _ _ k1, gB k k1 k2 k3]
    have d17 : ∀ x y, (mW (mW B 119 16 x) 119 19 y) 119 17 = nI s := fun x y => by rw [mW_off _ _ (by decide), mW_off _ _ (by decide), b17]
    have d18 : ∀ x y, (mW (mW B 119 16 x) 119 19 y) 119 18 = 1 := fun x y => by rw [mW_off _ _ (by decide), mW_off _ _ (by decide), b18]
    have d16 : ∀ x y, (mW (mW B 119 16 x) 119 19 y) 119 16 = x := fun x y => by rw [mW_off _ _ (by decide), mW_at]
    have cm : ∀ x y x', mW (mW (mW B 119 16 x) 119 19 y) 119 16 x' = mW (mW B 119 16 x') 119 19 y := fun x y x' => by rw [mW_comm _ 119 19 16 _ _ (by decide), mW_mW]
    have cn : ∀ x y y', mW (mW (mW B 119 16 x) 119 19 y) 119 19 y' = mW (mW B 119 16 x) 119 19 y' := fun x y y' => mW_mW _ _ _ _ _
    cases hL : Ltr (t s) with
    | true =>
      rw [if_pos rfl, if_neg one_n0]
      obtain ⟨e, _, he, _, h1⟩ := stop_loop (ρ := Unit) (σ := mI) (P := fun i => Ltr (t i)) (n := n) (fun f p _ => l10_reads_95 f (mW (mW B 119 16 (nI p)) 119 19 (nI (t s)))) (fun _ _ => ()) (fun p _ => mW (mW B 119 16 (nI p)) 119 19 (nI (t s))) (fun _ _ => True) (fun f p r hp hP _ => by
        show l10_reads_95 (f + 1) _ = _
        rw [l10_reads_95, d16, raw_e (tD _ _) (by omega), Option.bind_some, if_pos hp, (sg_e (ht p (by omega)).1).2.1, if_pos hP, if_neg one_n0, nI_1, cm]) (fun f p r hpn hx _ => by
        show l10_reads_95 (f + 1) _ = _
        rw [l10_reads_95, d16, raw_e (tD _ _) hpn, Option.bind_some]
        by_cases z : p < n
        · rw [if_pos z, (sg_e (ht p (by omega)).1).2.1, if_neg (fun q => hx ⟨z, q⟩), if_pos rfl]
        · rw [if_neg z, sg_end.1, if_pos rfl]) (fun _ _ _ _ _ => trivial) 400 (s + 1) () (by omega) (by omega) trivial
      have h1 := h1 FU (FU_lt (by omega))
      have hse : Stw (fun i => Ltr (t i)) n s e := ⟨by have := he.1; omega, fun q q1 q2 => by
        by_cases eq : q = s
        · rw [eq]; exact ⟨z, hL⟩
        · exact he.2.1 q (by omega) q2, he.2.2⟩
      have een := Stw_le he (by omega)
      have lt := Stw_lt hse z hL
      obtain ⟨w, w1, w2⟩ := wordM (M := mW (mW B 119 16 (nI e)) 119 19 (nI (t s))) (t := t) (s := s) (e := e) lt (by omega) (fun i hi => by rw [fD _ _ 129 (by decide)]; exact (ht i hi).2) (by rw [fD _ _ 130 (by decide)]; exact h.2.2.2) (fun j j1 j2 => (hse.2.1 j j1 j2).2)
      rw [h1, Option.bind_some, d17, d16, w2, Option.bind_some]
      cases w with
      | none =>
        refine ⟨mW (mW B 119 16 (nI e)) 119 19 (-1), 130, 0, s, e, ?_, ⟨hs, .inr (.inl ⟨z, hL, hse, rfl, none, w1, rfl⟩)⟩, .inr (.inl ⟨rfl, d18 _ _⟩), d17 _ _, d16 _ _, fD _ _, gD _ _⟩
        show (if (-1 : Int32) = -1 then _ else _ : Option mI).bind _ = _
        rw [if_pos rfl, Option.bind_some, cn]
      | some i =>
        have ne : ¬ nI i = -1 := nI_m1 (by have := w1.1; omega)
        refine ⟨mW (mW (mW B 119 16 (nI e)) 119 19 (nI i)) 119 18 2, nI i, 0, s, e, ?_, ⟨hs, .inr (.inl ⟨z, hL, hse, rfl, some i, w1, rfl⟩)⟩, .inr (.inr (.inl ⟨i, w1.1, rfl, mW_at _ _ _ _, by rw [mW_off _ _ (by decide), mW_at]⟩)), by rw [mW_off _ _ (by decide), d17], by rw [mW_off _ _ (by decide), d16], fun a ha => by rw [mW_ne _ _ _ ha, fD _ _ a ha], fun k k1 k2 k3 k4 => by rw [mW_off _ _ k3, gD _ _ k k1 k2 k3 k4]⟩
        show (if nI i = -1 then _ else _ : Option mI).bind _ = _
        rw [if_neg ne, Option.bind_some, cn]
    | false =>
      rw [if_neg (show ¬ (false = true) by decide), if_pos rfl]
      cases hD : Dig (t s) with
      | true =>
        rw [if_pos rfl, if_neg one_n0]
        have d48 : ∀ i, Dig i = true → 48 ≤ i ∧ i ≤ 57 := fun i hi => by
          unfold Dig at hi
          simpa [Bool.and_eq_true, decide_eq_true_eq] using hi
        have s48 : nI (t s) - 48 = nI (vl t s 1) := by
          have := d48 _ hD
          show nI (t s) - nI 48 = nI (10 * 0 + (t (s + 0) - 48))
          rw [nI_sub (by omega), Nat.add_zero]
          congr 1
          omega
        obtain ⟨e, v, he, ⟨hv1, hv2, hv3, hv4⟩, h1⟩ := stop_loop (ρ := Nat) (σ := mI) (P := fun i => Dig (t i)) (n := n) (fun f p v => l10_reads_171 f (mW (mW B 119 16 (nI p)) 119 19 (nI v))) (fun p v => if 10000 ≤ v then v else 10 * v + (t p - 48)) (fun p v => mW (mW B 119 16 (nI p)) 119 19 (nI v)) (fun p v => v < 100000 ∧ s + 1 ≤ p ∧ (∀ q, s ≤ q → q < p → Dig (t q) = true) ∧ (p - s ≤ 4 → v = vl t s (p - s))) (fun f p v hp hP q => by
          have dg := d48 _ hP
          have q1 := q.1
          have ld : (mW (mW B 119 16 (nI p)) 119 19 (nI v)) 119 19 = nI v := mW_at _ _ _ _
          show l10_reads_171 (f + 1) _ = l10_reads_171 f _
          rw [l10_reads_171, d16, raw_e (tD _ _) (by omega), Option.bind_some, Option.bind_some, if_pos hp, (sg_e (ht p (by omega)).1).2.2.2.1, if_pos hP, if_neg one_n0, ld, nI_1]
          by_cases w : 10000 ≤ v
          · rw [if_pos (show (10000 : Int32) ≤ nI v from nI_le (a := 10000) w (by omega)), Option.bind_some, if_pos w, cn, cm]
          · rw [if_neg (show ¬ (10000 : Int32) ≤ nI v from nI_ge (b := 10000) (by omega) (by decide)), Option.bind_some, if_neg w, cn, cm, Int32.mul_comm, dig_step dg.1]) (fun f p r hpn hx _ => by
          show l10_reads_171 (f + 1) _ = _
          rw [l10_reads_171, d16, raw_e (tD _ _) hpn, Option.bind_some]
          by_cases z : p < n
          · rw [if_pos z, (sg_e (ht p (by omega)).1).2.2.2.1, if_neg (fun q => hx ⟨z, q⟩), if_pos rfl]
          · rw [if_neg z, sg_end.2, if_pos rfl]) (fun p v hp hP q => by
          obtain ⟨q1, q2, q3, q4⟩ := q
          have dg := d48 _ hP
          refine ⟨?_, by omega, fun i i1 i2 => ?_, fun h4 => ?_⟩
          · show (if 10000 ≤ v then v else 10 * v + (t p - 48)) < 100000
            split <;> omega
          · by_cases e : i = p
            · rw [e]; exact hP
            · exact q3 i i1 (by omega)
          · have ev := q4 (by omega)
            have lt := vl_lt (t := t) (s := s) (p - s) (fun i hi => q3 (s + i) (by omega) (by omega))
            have p3 : 10 ^ (p - s) ≤ 10 ^ 3 := Nat.pow_le_pow_right (by decide) (by omega)
            show (if 10000 ≤ v then v else 10 * v + (t p - 48)) = vl t s (p + 1 - s)
            rw [if_neg (by omega), show p + 1 - s = (p - s) + 1 by omega]
            show _ = 10 * vl t s (p - s) + (t (s + (p - s)) - 48)
            rw [show s + (p - s) = p by omega, ev]) 400 (s + 1) (vl t s 1) (by omega) (by omega) ⟨by
            have := d48 _ hD
            show 10 * 0 + (t (s + 0) - 48) < 100000
            rw [Nat.add_zero]; omega, by omega, fun q q1 q2 => by rw [show q = s by omega]; exact hD, fun _ => by rw [show s + 1 - s = 1 by omega]⟩
        have h1 := h1 FU (FU_lt (by omega))
        have hse : Stw (fun i => Dig (t i)) n s e := ⟨by have := he.1; omega, fun q q1 q2 => by
          by_cases eq : q = s
          · rw [eq]; exact ⟨z, hD⟩
          · exact he.2.1 q (by omega) q2, he.2.2⟩
        have een := Stw_le he (by omega)
        have hes := he.1
        rw [cn, s48, h1, Option.bind_some]
        have e45 : (mW (mW B 119 16 (nI e)) 119 19 (nI v)) 119 16 - (mW (mW B 119 16 (nI e)) 119 19 (nI v)) 119 17 = nI (e - s) := by rw [d16, d17, nI_sub (by omega)]
        rw [e45]
        by_cases w : 4 < e - s
        · rw [if_pos (show (5 : Int32) ≤ nI (e - s) from nI_le (a := 5) (by omega) (by omega)), Option.bind_some]
          exact ⟨_, 130, nI (vl t s (min 4 (e - s))), s, e, rfl, ⟨hs, .inr (.inr (.inl ⟨z, hL, hD, hse, by rw [if_pos w], rfl⟩))⟩, .inr (.inl ⟨rfl, d18 _ _⟩), d17 _ _, d16 _ _, fD _ _, gD _ _⟩
        · rw [if_neg (show ¬ (5 : Int32) ≤ nI (e - s) from nI_ge (b := 5) (by omega) (by decide)), Option.bind_some]
          have ev := hv4 (by omega)
          exact ⟨_, 128, nI (vl t s (min 4 (e - s))), s, e, rfl, ⟨hs, .inr (.inr (.inl ⟨z, hL, hD, hse, by rw [if_neg w], rfl⟩))⟩, .inr (.inr (.inr (.inl ⟨rfl, mW_at _ _ _ _, by rw [mW_off _ _ (by decide), mW_at, ev, show min 4 (e - s) = e - s by omega]⟩))), by rw [mW_off _ _ (by decide), d17], by rw [mW_off _ _ (by decide), d16], fun a ha => by rw [mW_ne _ _ _ ha, fD _ _ a ha], fun k k1 k2 k3 k4 => by rw [mW_off _ _ k3, gD _ _ k k1 k2 k3 k4]⟩
      | false =>
        rw [if_neg (show ¬ (false = true) by decide), if_pos rfl]
        cases hS : Sgn (t s) with
        | true =>
          rw [if_pos rfl, if_neg one_n0, Option.bind_some]
          exact ⟨_, nI (t s), 0, s, s + 1, rfl, ⟨hs, .inr (.inr (.inr ⟨z, hL, hD, rfl, rfl, by rw [hS]; rfl⟩))⟩, .inr (.inr (.inr (.inr ⟨t s, tb, hS, rfl, mW_at _ _ _ _, by rw [mW_off _ _ (by decide), mW_at]⟩))), by rw [mW_off _ _ (by decide), d17], by rw [mW_off _ _ (by decide), d16], fun a ha => by rw [mW_ne _ _ _ ha, fD _ _ a ha], fun k k1 k2 k3 k4 => by rw [mW_off _ _ k3, gD _ _ k k1 k2 k3 k4]⟩
        | false =>
          rw [if_neg (show ¬ (false = true) by decide), if_pos rfl, Option.bind_some]
          exact ⟨_, 130, 0, s, s + 1, rfl, ⟨hs, .inr (.inr (.inr ⟨z, hL, hD, rfl, rfl, by rw [hS]; rfl⟩))⟩, .inr (.inl ⟨rfl, d18 _ _⟩), d17 _ _, d16 _ _, fD _ _, gD _ _⟩
  · rw [if_neg z, if_pos rfl]
    exact ⟨mW B 119 18 0, 129, 0, s, s, rfl, ⟨hs, .inl ⟨z, rfl, rfl, rfl⟩⟩, .inl ⟨rfl, mW_at _ _ _ _⟩, by rw [mW_off _ _ (by decide), b17], by rw [mW_off _ _ (by decide), b16], fun a ha => by rw [mW_ne _ _ _ ha, fB a ha], fun k k1 k2 k3 k4 => by rw [mW_off _ _ k3, gB k k1 k2 k3]⟩

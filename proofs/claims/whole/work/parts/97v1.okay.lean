/-! TEXT: a line that is right has told no fault -/
def K2 (C C' : mI) : Prop := C' 109 11 = C 109 11 ∧ C' 109 12 = C 109 12
theorem K2_r (C : mI) : K2 C C := ⟨rfl, rfl⟩
theorem K2_t {A B C : mI} (h : K2 A B) (h' : K2 B C) : K2 A C := ⟨h'.1.trans h.1, h'.2.trans h.2⟩
def Ok1 (C : mI) (r : Option (Int32 × mI)) : Prop := ∀ v C', r = some (v, C') → ¬ v = 0 → K2 C C'
def Ok0 (C : mI) (r : Option mI) : Prop := ∀ C', r = some C' → K2 C C'
theorem ok_b {C : mI} {α : Type} {X : Option α} {F : α → Option (Int32 × mI)} (h : ∀ z, Ok1 C (F z)) : Ok1 C (X.bind F) := by
  intro v C' e hv
  obtain ⟨z, _, e⟩ := mBind e
  exact h z v C' e hv
theorem ok_c {C : mI} {X : Option mI} {F : mI → Option (Int32 × mI)} (hX : Ok0 C X) (h : ∀ z, K2 C z → Ok1 C (F z)) : Ok1 C (X.bind F) := by
  intro v C' e hv
  obtain ⟨z, ez, e⟩ := mBind e
  exact h z (hX z ez) v C' e hv
theorem ok_s {C : mI} {X : Option (Int32 × mI)} {G : Int32 × mI → Option (Int32 × mI)} (hX : Ok1 C X) (h : ∀ z : Int32 × mI, K2 C z.2 → Ok1 C (G z)) : Ok1 C (X.bind fun z => if z.1 = 0 then some (0, z.2) else G z) := by
  intro v C' e hv
  obtain ⟨z, ez, e⟩ := mBind e
  by_cases q : z.1 = 0
  · rw [if_pos q] at e
    exact absurd (congrArg Prod.fst (Option.some.inj e)).symm hv
  · rw [if_neg q] at e
    exact h z (hX z.1 z.2 ez q) v C' e hv
theorem ok_i {C : mI} {c : Prop} [Decidable c] {A B : Option (Int32 × mI)} (hA : Ok1 C A) (hB : Ok1 C B) : Ok1 C (if c then A else B) := by
  split
  · exact hA
  · exact hB
theorem ok_and {C : mI} {X : Option (Int32 × mI)} (h : Ok1 C X) : Ok1 C (X.bind fun z => some (z.1 &&& 1, z.2)) := by
  intro v C' e hv
  obtain ⟨z, ez, e⟩ := mBind e
  have e := Option.some.inj e
  have e1 : z.1 &&& 1 = v := congrArg Prod.fst e
  have e2 : z.2 = C' := congrArg Prod.snd e
  rw [← e2]
  refine h z.1 z.2 ez (fun q => hv ?_)
  rw [← e1, q]; decide
theorem ok_p {C : mI} {X : Option (Int32 × mI)} (h : Ok1 C X) : Ok1 C (X.bind fun z => some (z.1, z.2)) := by
  intro v C' e hv
  obtain ⟨z, ez, e⟩ := mBind e
  have e := Option.some.inj e
  have e1 : z.1 = v := congrArg Prod.fst e
  have e2 : z.2 = C' := congrArg Prod.snd e
  rw [← e2]
  exact h z.1 z.2 ez (fun q => hv (by rw [← e1, q]))
theorem ok_r {C C1 : mI} {v : Int32} (h : K2 C C1) : Ok1 C (some (v, C1)) := fun v' C' e _ => by
  have e2 : C1 = C' := congrArg Prod.snd (Option.some.inj e)
  rw [← e2]; exact h
theorem ok_blame {C C1 : mI} {w : Int32} : Ok1 C (r4_blame C1 w) := fun v C' e hv => by
  unfold r4_blame at e
  obtain ⟨z, _, e⟩ := mBind e
  exact absurd (congrArg Prod.fst (Option.some.inj e)).symm hv
theorem ok_step {C C1 : mI} (h : K2 C C1) : Ok0 C (r4_step C1) := fun C' e => by
  unfold r4_step at e
  obtain ⟨z, ez, e⟩ := mBind e
  have e := Option.some.inj e
  subst e
  split at ez
  · have ez := Option.some.inj ez
    rw [← ez]; exact h
  · have ez := Option.some.inj ez
    rw [← ez]; exact ⟨by rw [mW_off _ _ (by decide)]; exact h.1, by rw [mW_off _ _ (by decide)]; exact h.2⟩
theorem ok_write {C C1 : mI} {x y : Int32} (h : K2 C C1) : Ok0 C (r6_write_114 C1 x y) := fun C' e => by
  unfold r6_write_114 at e
  obtain ⟨z, ez, e⟩ := mBind e
  have e := Option.some.inj e
  subst e
  split at ez
  · rw [← Option.some.inj ez]; exact h
  · split at ez
    · rw [← Option.some.inj ez]; exact h
    · obtain ⟨m, em, ez⟩ := mBind ez
      rw [← Option.some.inj ez]
      unfold mSto at em
      split at em
      · cases em
      · rw [← Option.some.inj em]; exact ⟨by rw [mW_ne _ _ _ (by decide)]; exact h.1, by rw [mW_ne _ _ _ (by decide)]; exact h.2⟩
theorem ok_pass {C C1 : mI} {k : Int32} (h : K2 C C1) : Ok1 C (r4_pass C1 k) := by
  unfold r4_pass
  refine ok_b fun z => ok_i (ok_c (ok_step h) fun z hz => ok_r hz) (ok_and ok_blame)
theorem ok_num {C C1 : mI} {k l g : Int32} (h : K2 C C1) : Ok1 C (r4_number C1 k l g) := by
  unfold r4_number
  refine ok_b fun z => ok_i (ok_b fun z => ok_i (ok_and ok_blame) (ok_b fun z => ok_i (ok_b fun z => ok_c (ok_write h) fun z hz => ok_c (ok_step hz) fun z hz => ok_r hz) (ok_and ok_blame))) (ok_and ok_blame)
theorem ok_mark {C C1 : mI} (h : K2 C C1) : Ok1 C ((r4_pass C1 59).bind fun z => if z.1 = 0 then some (0, z.2) else some (1, z.2)) := ok_s (ok_pass h) fun z hz => ok_r hz
theorem ok_care {C : mI} : Ok1 C (r4_careLine C) := by
  unfold r4_careLine
  have tail : ∀ (z2 : Int32) (z4 : mI), K2 C z4 → Ok1 C ((if (z2 : Int32) = 15 then (r4_number z4 2 0 9).bind fun z6 => some (z6.1, z6.2) else if (z2 : Int32) = 22 then (r4_number z4 2 0 7).bind fun z7 => some (z7.1, z7.2) else if (z2 : Int32) = 24 then (r4_number z4 2 1 99).bind fun z8 => some (z8.1, z8.2) else if (z2 : Int32) = 25 then (r4_number z4 2 0 99).bind fun z9 => some (z9.1, z9.2) else some (1, z4) : Option (Int32 × mI)).bind fun z5 => (if (z5.1 : Int32) = (0 : Int32) then some (0, z5.2) else (r4_pass z5.2 59).bind fun z11 => if (z11.1 : Int32) = (0 : Int32) then some (0, z11.2) else some (1, z11.2) : Option (Int32 × mI)).bind fun z10 => some ((z10.1 &&& 1), z10.2)) := by
    intro z2 z4 h4
    rw [← Option.bind_assoc]
    exact ok_and (ok_s (ok_i (ok_p (ok_num h4)) (ok_i (ok_p (ok_num h4)) (ok_i (ok_p (ok_num h4)) (ok_i (ok_p (ok_num h4)) (ok_r h4))))) fun z hz => ok_mark hz)
  refine ok_s (ok_pass (K2_r _)) fun z0 h0 => ok_s (ok_num h0) fun z1 h1 => ok_b fun z2 => ok_c (ok_write h1) fun z3 h3 => ok_i (ok_i (ok_c (ok_step h3) fun z4 h4 => tail z2 z4 h4) (ok_and ok_blame)) (ok_i (ok_i (ok_c (ok_step h3) fun z4 h4 => tail z2 z4 h4) (ok_and ok_blame)) (ok_and ok_blame))
theorem ok_like {C : mI} : Ok1 C (r4_likenessLine C) := by
  unfold r4_likenessLine
  have tail : ∀ (z2 : Int32 × mI), K2 C z2.2 → Ok1 C ((r4_number z2.2 1 0 (z2.2 109 8 - 1)).bind fun z4 => (if (z4.1 : Int32) = (0 : Int32) then some (0, z4.2) else (r4_pass z4.2 59).bind fun z6 => if (z6.1 : Int32) = (0 : Int32) then some (0, z6.2) else some (1, z6.2) : Option (Int32 × mI)).bind fun z5 => some ((z5.1 &&& 1), z5.2)) := by
    intro z2 h2
    rw [← Option.bind_assoc]
    exact ok_and (ok_s (ok_num h2) fun z hz => ok_mark hz)
  refine ok_s (ok_pass (K2_r _)) fun z0 h0 => ok_s (ok_num h0) fun z1 h1 => ok_s (ok_pass h1) fun z2 h2 => ok_b fun z3 => ok_i (ok_b fun z7 => ok_b fun z8 => ok_i (ok_and ok_blame) (tail z2 h2)) (tail z2 h2)
/-- the row's loop -/
def OkR (C : mI) (y : Int32) (r : Option ((Int32 × mI) ⊕ (Int32 × Int32 × mI))) : Prop := ∀ v, r = some v → match v with | .inl e => e.1 = 0 | .inr w => ¬ w.2.1 = 0 → ¬ y = 0 ∧ K2 C w.2.2
theorem okr_num {C : mI} {y k l g : Int32} (hy : ¬ y = 0) {F : Int32 × mI → Option ((Int32 × mI) ⊕ (Int32 × Int32 × mI))} (h : ∀ z : Int32 × mI, OkR z.2 z.1 (F z)) : OkR C y ((r4_number C k l g).bind F) := by
  intro v e
  obtain ⟨z, ez, e⟩ := mBind e
  have q := h z v e
  cases v with
  | inl e => exact q
  | inr w =>
    intro hw
    obtain ⟨q1, q2⟩ := q hw
    exact ⟨hy, K2_t (ok_num (C := C) (K2_r _) z.1 z.2 ez q1) q2⟩
theorem okr_blame {C C1 : mI} {y w : Int32} : OkR C y ((r4_blame C1 w).bind fun z3 => some (.inl ((z3.1 &&& 1), z3.2))) := by
  intro v e
  obtain ⟨z, ez, e⟩ := mBind e
  have e := Option.some.inj e
  subst e
  unfold r4_blame at ez
  obtain ⟨m, _, ez⟩ := mBind ez
  have ez := Option.some.inj ez
  subst ez
  show (0 : Int32) &&& 1 = 0
  decide
theorem okr_r {C : mI} {y y1 : Int32} : OkR C y (some (.inr (y1, y, C))) := by
  intro v e
  have e := Option.some.inj e
  subst e
  exact fun hw => ⟨hw, K2_r _⟩
theorem okr_i {C : mI} {y : Int32} {c : Prop} [Decidable c] {A B : Option ((Int32 × mI) ⊕ (Int32 × Int32 × mI))} (hA : ¬ y = 0 → OkR C y A) (hB : ¬ y = 0 → OkR C y B) (hy : ¬ y = 0) : OkR C y (if c then A else B) := by
  split
  · exact hA hy
  · exact hB hy
theorem okr_b {C : mI} {y : Int32} {α : Type} {X : Option α} {F : α → Option ((Int32 × mI) ⊕ (Int32 × Int32 × mI))} (h : ∀ z, OkR C y (F z)) : OkR C y (X.bind F) := by
  intro v e
  obtain ⟨z, _, e⟩ := mBind e
  exact h z v e
theorem okr_loop : ∀ (f : Nat) (y1 y2 : Int32) (C : mI), OkR C y2 (l4_row_4 f y1 y2 C)
  | 0, _, _, _ => fun _ e => by cases e
  | f + 1, y1, y2, C => by
    rw [l4_row_4]
    by_cases hy : y2 = 0
    · rw [if_pos hy]; exact okr_r
    · rw [if_neg hy]
      have go : ∀ z : Int32 × mI, OkR z.2 z.1 (l4_row_4 f (y1 + 1) z.1 z.2) := fun z => okr_loop f (y1 + 1) z.1 z.2
      refine okr_i (fun _ => okr_r) (fun _ => okr_i (fun _ => okr_i (fun _ => okr_b fun z => okr_i (fun _ => okr_num hy go) (fun _ => okr_blame) hy) (fun _ => okr_num hy go) hy) (fun _ => okr_b fun z => okr_i (fun _ => okr_i (fun _ => okr_b fun z => okr_i (fun _ => okr_num hy go) (fun _ => okr_blame) hy) (fun _ => okr_num hy go) hy) (fun _ => okr_r) hy) hy) hy
theorem ok_row {C C1 : mI} (h : K2 C C1) : Ok1 C (r4_row C1) := by
  intro v C' e hv
  unfold r4_row at e
  obtain ⟨z, ez, e⟩ := mBind e
  have q := okr_loop FU 0 1 C1 z ez
  cases z with
  | inl r =>
    have e := Option.some.inj e
    have q : r.1 = 0 := q
    rw [e] at q
    exact absurd q hv
  | inr w =>
    dsimp only at e
    obtain ⟨m, em, e⟩ := mBind e
    have e := Option.some.inj e
    have e1 : w.2.1 &&& 1 = v := congrArg Prod.fst e
    have e2 : m = C' := congrArg Prod.snd e
    obtain ⟨_, q2⟩ := q (fun z => hv (by rw [← e1, z]; decide))
    rw [← e2]
    exact ok_write (C := C) (K2_t h q2) m em
theorem ok_prog {C : mI} : Ok1 C (r4_programmeLine C) := by
  unfold r4_programmeLine
  rw [← Option.bind_assoc]
  refine ok_and (ok_s (ok_pass (K2_r _)) fun z0 h0 => ok_s (ok_num h0) fun z1 h1 => ok_s (ok_pass h1) fun z2 h2 => ok_s (ok_num h2) fun z3 h3 => ok_s (ok_pass h3) fun z4 h4 => ok_s (ok_row h4) fun z5 h5 => ok_mark h5)

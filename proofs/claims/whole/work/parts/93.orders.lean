/-! LASTS: all orders, as the class tries them -/
def bitsL (L : Nat) : List Nat := (List.range 12).filter (fun i => L.testBit i)
def lexp : Nat → List Nat → List (List Nat)
  | 0, _ => []
  | n + 1, ls => ls.flatMap (fun q => if ls.length ≤ 1 then [[q]] else (lexp n (ls.erase q)).map (fun l => q :: l))
def totW (tr : Nat → Int32 → Int32 → Nat × Int32 × Int32) : Int32 → Int32 → List Nat → Nat
  | _, _, [] => 0
  | w, s, q :: l => if l = [] then 0 else (tr q w s).1 + totW tr (tr q w s).2.1 (tr q w s).2.2 l
def bst (tr : Nat → Int32 → Int32 → Nat × Int32 × Int32) (w s : Int32) (wt : Nat) (pre : List Nat) (b : Nat × List Nat) (l : List Nat) : Nat × List Nat := if wt + totW tr w s l < b.1 then (wt + totW tr w s l, pre ++ l) else b
def FE (tr : Nat → Int32 → Int32 → Nat × Int32 × Int32) (n : Nat) (ls : List Nat) (w s : Int32) (wt : Nat) (pre : List Nat) (b : Nat × List Nat) : Nat × List Nat := (lexp n ls).foldl (bst tr w s wt pre) b
theorem foldl_ext {α β : Type} {f g : β → α → β} : ∀ (l : List α) (b : β), (∀ b x, x ∈ l → f b x = g b x) → l.foldl f b = l.foldl g b
  | [], b, _ => rfl
  | x :: l, b, h => by
    show l.foldl f (f b x) = l.foldl g (g b x)
    rw [h b x (List.mem_cons_self ..)]
    exact foldl_ext l _ (fun b y hy => h b y (List.mem_cons_of_mem _ hy))
theorem foldl_fm {α β γ : Type} {f : α → List γ} {g : β → γ → β} : ∀ (l : List α) (b : β), (l.flatMap f).foldl g b = l.foldl (fun b q => (f q).foldl g b) b
  | [], b => rfl
  | x :: l, b => by
    rw [List.flatMap_cons, List.foldl_append]
    show _ = l.foldl (fun b q => (f q).foldl g b) ((f x).foldl g b)
    exact foldl_fm l _
theorem lexp_ne : ∀ n ls, ∀ l ∈ lexp n ls, l ≠ []
  | 0, ls, l, h => absurd h (by unfold lexp; simp)
  | n + 1, ls, l, h => by
    unfold lexp at h
    rw [List.mem_flatMap] at h
    obtain ⟨q, _, h⟩ := h
    by_cases z : ls.length ≤ 1
    · rw [if_pos z, List.mem_singleton] at h
      rw [h]; simp
    · rw [if_neg z, List.mem_map] at h
      obtain ⟨l', _, e⟩ := h
      rw [← e]; simp
theorem FE_one (tr : Nat → Int32 → Int32 → Nat × Int32 × Int32) (n q : Nat) (w s : Int32) (wt : Nat) (pre : List Nat) (b : Nat × List Nat) : FE tr (n + 1) [q] w s wt pre b = bst tr w s wt pre b [q] := by
  unfold FE lexp
  simp
theorem FE_more (tr : Nat → Int32 → Int32 → Nat × Int32 × Int32) (n : Nat) (ls : List Nat) (h : ¬ ls.length ≤ 1) (w s : Int32) (wt : Nat) (pre : List Nat) (b : Nat × List Nat) : FE tr (n + 1) ls w s wt pre b = ls.foldl (fun b q => FE tr n (ls.erase q) (tr q w s).2.1 (tr q w s).2.2 (wt + (tr q w s).1) (pre ++ [q]) b) b := by
  unfold FE
  rw [lexp, foldl_fm]
  refine foldl_ext ls b (fun b q _ => ?_)
  rw [if_neg h, List.foldl_map]
  refine foldl_ext _ b (fun b l hl => ?_)
  unfold bst
  have e : totW tr w s (q :: l) = (tr q w s).1 + totW tr (tr q w s).2.1 (tr q w s).2.2 l := by
    show (if l = [] then 0 else _) = _
    rw [if_neg (lexp_ne n _ l hl)]
  rw [e, ← Nat.add_assoc, List.append_assoc]
  rfl
theorem FE_prune (tr : Nat → Int32 → Int32 → Nat × Int32 × Int32) (n : Nat) (ls : List Nat) (w s : Int32) (wt : Nat) (pre : List Nat) (b : Nat × List Nat) (h : b.1 ≤ wt) : FE tr n ls w s wt pre b = b := by
  unfold FE
  generalize lexp n ls = l
  induction l with
  | nil => rfl
  | cons x l ih =>
    show l.foldl _ (bst tr w s wt pre b x) = b
    have : bst tr w s wt pre b x = b := if_neg (by omega)
    rw [this]; exact ih
theorem FE_le (tr : Nat → Int32 → Int32 → Nat × Int32 × Int32) (n : Nat) (ls : List Nat) (w s : Int32) (wt : Nat) (pre : List Nat) (b : Nat × List Nat) : (FE tr n ls w s wt pre b).1 ≤ b.1 := by
  unfold FE
  generalize lexp n ls = l
  induction l generalizing b with
  | nil => exact Nat.le_refl _
  | cons x l ih =>
    show (l.foldl _ (bst tr w s wt pre b x)).1 ≤ b.1
    refine Nat.le_trans (ih _) ?_
    unfold bst
    by_cases z : wt + totW tr w s x < b.1
    · rw [if_pos z]
      show wt + totW tr w s x ≤ b.1
      omega
    · rw [if_neg z]; exact Nat.le_refl _
theorem bits_mem {L q : Nat} : q ∈ bitsL L ↔ q < 12 ∧ L.testBit q = true := by
  unfold bitsL
  rw [List.mem_filter, List.mem_range]
theorem bits_nodup (L : Nat) : (bitsL L).Nodup := List.Pairwise.filter _ List.nodup_range
theorem bits_erase {L q : Nat} (h : L.testBit q = true) : bitsL (L ^^^ 2 ^ q) = (bitsL L).erase q := by
  rw [(bits_nodup L).erase_eq_filter]
  unfold bitsL
  rw [List.filter_filter]
  refine List.filter_congr (fun i _ => ?_)
  rw [Nat.testBit_xor, Nat.testBit_two_pow]
  by_cases e : q = i
  · subst e
    rw [h]
    simp
  · have : ¬ i = q := fun k => e k.symm
    simp [e, this]
theorem bits_nil {L : Nat} (h : L < 4096) (e : bitsL L = []) : L = 0 := by
  apply Nat.eq_of_testBit_eq
  intro i
  rw [Nat.zero_testBit]
  by_cases hi : i < 12
  · cases hb : L.testBit i with
    | false => rfl
    | true =>
      have : i ∈ bitsL L := bits_mem.mpr ⟨hi, hb⟩
      rw [e] at this
      exact absurd this (by simp)
  · exact Nat.testBit_lt_two_pow (Nat.lt_of_lt_of_le h (Nat.pow_le_pow_right (n := 2) (by decide) (show 12 ≤ i by omega)))
theorem bits_one {L q : Nat} (h : L < 4096) (hq : q < 12) (hb : L.testBit q = true) : (bitsL L).length ≤ 1 ↔ L = 2 ^ q := by
  have mem : q ∈ bitsL L := bits_mem.mpr ⟨hq, hb⟩
  have len := List.length_erase_of_mem mem
  have pos : 0 < (bitsL L).length := List.length_pos_of_mem mem
  rw [← bits_erase hb] at len
  have lt : L ^^^ 2 ^ q < 4096 := Nat.xor_lt_two_pow (n := 12) h (Nat.pow_lt_pow_right (by decide) hq)
  constructor
  · intro h1
    have : bitsL (L ^^^ 2 ^ q) = [] := List.eq_nil_of_length_eq_zero (by omega)
    have z := bits_nil lt this
    have := congrArg (fun x => x ^^^ 2 ^ q) z
    simp only [Nat.xor_assoc, Nat.xor_self, Nat.xor_zero, Nat.zero_xor] at this
    exact this
  · intro e
    have : L ^^^ 2 ^ q = 0 := by rw [e, Nat.xor_self]
    rw [this] at len
    have : bitsL 0 = [] := by decide
    rw [this] at len
    have : (0 : Nat) = (bitsL L).length - 1 := len
    omega
theorem left_t {L q : Nat} (hq : q < 12) : (nI L &&& ((1 : Int32) <<< (nI q &&& 31))) = 0 ↔ ¬ L.testBit q = true := by
  rw [and0_bt]
  constructor
  · intro h hb
    exact h q (by omega) ⟨by rw [bt_nI (by omega)]; exact hb, by rw [sh1 (by omega) (by omega)]; simp⟩
  · intro h i hi q'
    rw [bt_nI hi, sh1 (by omega) hi] at q'
    have : i = q := by simpa using q'.2
    rw [this] at q'
    exact h q'.1
theorem left_x {L q : Nat} (hq : q < 12) (hb : L.testBit q = true) : nI L &&& (((1 : Int32) <<< (nI q &&& 31)) ^^^ (-1)) = nI (L ^^^ 2 ^ q) := by
  refine b_ext (fun i hi => ?_)
  rw [b_and, b_xor, bt_nI hi, bt_nI hi, sh1 (by omega) hi, b_m1 i hi, Nat.testBit_xor, Nat.testBit_two_pow]
  by_cases e : i = q
  · subst e; rw [hb]; simp
  · have : ¬ q = i := fun k => e k.symm
    simp [e, this]
/-- an order in a row -/
def Ord (C : mI) (r : Nat) (l : List Nat) : Prop := ∀ i, i < l.length → C r i = nI (l.getD i 0)
theorem Ord_app {C C' : mI} {r q : Nat} {l : List Nat} (h : Ord C r l) (h1 : ∀ i, i < l.length → C' r i = C r i) (h2 : C' r l.length = nI q) : Ord C' r (l ++ [q]) := by
  intro i hi
  rw [List.length_append] at hi
  have hi : i < l.length + 1 := hi
  by_cases e : i < l.length
  · rw [h1 i e, h i e, List.getD_eq_getElem?_getD, List.getD_eq_getElem?_getD, List.getElem?_append_left e]
  · have : i = l.length := by omega
    rw [this, h2, List.getD_eq_getElem?_getD, List.getElem?_append_right (Nat.le_refl _), Nat.sub_self]
    rfl
theorem Ord_pre {C : mI} {r : Nat} {l l' : List Nat} (h : Ord C r (l ++ l')) : Ord C r l := by
  intro i hi
  have := h i (by rw [List.length_append]; omega)
  rw [this, List.getD_eq_getElem?_getD, List.getD_eq_getElem?_getD, List.getElem?_append_left hi]
/-- the class tries all orders of the set L -/
theorem dfs {C0 M0 : mI} {p : Nat} {tr : Nat → Int32 → Int32 → Nat × Int32 × Int32} {np : Nat} (htr : ∀ q w s, q < np → TrP C0 M0 p q w s (tr q w s)) : ∀ (n f L : Nat) (w s : Int32) (wt : Nat) (pre : List Nat) (b : Nat × List Nat) (C : mI), (bitsL L).length = n + 1 → n ≤ f → pre.length + (n + 1) ≤ 5 → L < 4096 → (∀ q, L.testBit q = true → q < np) → CK C0 C w s (fun k => L.testBit k = true) → C 1 8 = nI b.1 → b.1 ≤ 300 → Ord C 42 pre → Ord C 43 b.2 → wt + 60 * n ≤ 400 →
    ∃ C', rB5_tryOrders (fun J y0 y1 y2 y3 => r5_tryOrders f J 35 y0 y1 y2 y3) C 35 (nI p) (nI L) (nI pre.length) (nI wt) = some C' ∧ CK C0 C' w s (fun k => L.testBit k = true) ∧ Ord C' 42 pre ∧ C' 1 8 = nI (FE tr (n + 1) (bitsL L) w s wt pre b).1 ∧ Ord C' 43 (FE tr (n + 1) (bitsL L) w s wt pre b).2 ∧ (∀ a, ¬ (a = 1 ∨ (35 ≤ a ∧ a ≤ 38) ∨ (40 ≤ a ∧ a ≤ 43)) → C' a = C a) ∧ (∀ k, ¬ L.testBit k = true → C' 36 k = C 36 k) := by
  intro n
  induction n with
  | zero =>
    intro f L w s wt pre b C hlen hf hpl hL hnp hCK h18 hb hO hB hwt
    obtain ⟨q, eq⟩ : ∃ q, bitsL L = [q] := by
      match hx : bitsL L, hlen with
      | [q], _ => exact ⟨q, rfl⟩
    have hq := (bits_mem (L := L) (q := q)).mp (by rw [eq]; simp)
    have eL : L = 2 ^ q := (bits_one hL hq.1 hq.2).mp (by rw [eq]; simp)
    unfold rB5_tryOrders
    rw [if_neg (show ¬ (5 : Int32) ≤ nI pre.length from nI_ge (b := 5) (by omega) (by decide)), h18]
    rw [eq, FE_one]
    by_cases z : wt < b.1
    · rw [if_pos (nI_lt z (by omega))]
      have eb : bst tr w s wt pre b [q] = (wt, pre ++ [q]) := by
        unfold bst
        have : totW tr w s [q] = 0 := rfl
        rw [this, Nat.add_zero, if_pos z]
      rw [eb]
      obtain ⟨u, q1, q2⟩ := loop1 (fun g k (c : mI) => lB5_tryOrders_36 (fun J y0 y1 y2 y3 => r5_tryOrders f J 35 y0 y1 y2 y3) 35 (nI p) (nI L) (nI pre.length) (nI wt) (C 35 4) (C 35 5) g (nI k) c) (fun k c => c = C ∧ k ≤ q) (fun r => ∃ C', r = .inl C' ∧ CK C0 C' w s (fun k => L.testBit k = true) ∧ Ord C' 42 pre ∧ C' 1 8 = nI wt ∧ Ord C' 43 (pre ++ [q]) ∧ (∀ a, ¬ (a = 1 ∨ (35 ≤ a ∧ a ≤ 38) ∨ (40 ≤ a ∧ a ≤ 43)) → C' a = C a) ∧ (∀ k, ¬ L.testBit k = true → C' 36 k = C 36 k)) 12
        (fun c ⟨_, h⟩ => absurd h (by omega))
        (fun k c hk ⟨hc, hkq⟩ => by
          subst hc
          by_cases e : k = q
          · subst e
            refine .inl ⟨.inl (mU (mW (mW c 42 pre.length (nI k)) 1 8 (nI wt)) 43 (va_cpy ((mW (mW c 42 pre.length (nI k)) 1 8 (nI wt)) 42) ((mW (mW c 42 pre.length (nI k)) 1 8 (nI wt)) 43) 0 0 5)), fun g => ?_, _, rfl, ?_, ?_, ?_, ?_, fun a ha => ?_, fun j _ => ?_⟩
            · show lB5_tryOrders_36 _ _ _ _ _ _ _ _ (g + 1) _ _ = _
              rw [lB5_tryOrders_36, if_neg (show ¬ (12 : Int32) ≤ nI k from nI_ge (b := 12) hk (by decide)), if_neg (fun r => (left_t hk).mp r hq.2), mSto_n (by omega) (by decide), Option.bind_some, if_pos (by rw [sh_pow k (by omega), eL]), cpO_e _ _ _ 5 (n := 5) rfl (by decide), Option.bind_some]
            · obtain ⟨⟨c4, c5, c6, c7, c10⟩, cp, cr, c1⟩ := hCK
              refine ⟨⟨c4, c5, c6, c7, c10⟩, cp, fun a ha => ?_, ?_⟩
              · rw [mU_ne _ _ (by omega), mW_ne _ _ _ (by omega), mW_ne _ _ _ (by omega), cr a ha]
              · rw [mU_ne _ _ (by decide), mW_off _ _ (by decide), mW_ne _ _ _ (by decide), c1]
            · intro i hi
              rw [mU_ne _ _ (by decide), mW_ne _ _ _ (by decide), mW_off _ _ (by omega), hO i hi]
            · rw [mU_ne _ _ (by decide), mW_at]
            · refine Ord_app (C := mU (mW (mW c 42 pre.length (nI k)) 1 8 (nI wt)) 43 (va_cpy ((mW (mW c 42 pre.length (nI k)) 1 8 (nI wt)) 42) ((mW (mW c 42 pre.length (nI k)) 1 8 (nI wt)) 43) 0 0 5)) ?_ (fun _ _ => rfl) ?_
              · intro i hi
                rw [mU_eq, cpy_in (by omega), mW_ne _ _ _ (by decide), mW_off _ _ (by omega), hO i hi]
              · rw [mU_eq, cpy_in (by omega), mW_ne _ _ _ (by decide), mW_at]
            · rw [mU_ne _ _ (by omega), mW_ne _ _ _ (by omega), mW_ne _ _ _ (by omega)]
            · rw [mU_ne _ _ (by decide), mW_ne _ _ _ (by decide), mW_ne _ _ _ (by decide)]
          · have nb : ¬ L.testBit k = true := by
              intro hb'
              have : k ∈ bitsL L := bits_mem.mpr ⟨hk, hb'⟩
              rw [eq, List.mem_singleton] at this
              exact e this
            refine .inr ⟨c, fun g _ => ?_, rfl, by omega⟩
            show lB5_tryOrders_36 _ _ _ _ _ _ _ _ (g + 1) _ _ = _
            rw [lB5_tryOrders_36, if_neg (show ¬ (12 : Int32) ≤ nI k from nI_ge (b := 12) hk (by decide)), if_pos ((left_t hk).mpr nb), nI_1]) 12 0 FU C (by omega) (FU_lt (by omega)) ⟨rfl, by omega⟩
      obtain ⟨C', rfl, r⟩ := q2
      refine ⟨C', ?_, r⟩
      rw [show lB5_tryOrders_36 (fun J y0 y1 y2 y3 => r5_tryOrders f J 35 y0 y1 y2 y3) 35 (nI p) (nI L) (nI pre.length) (nI wt) (C 35 4) (C 35 5) FU 0 C = some (.inl C') from q1, Option.bind_some]
    · rw [if_neg (nI_nlt (by omega) (by omega))]
      have eb : bst tr w s wt pre b [q] = b := if_neg (by omega)
      rw [eb]
      exact ⟨C, rfl, hCK, hO, h18, hB, fun _ _ => rfl, fun _ _ => rfl⟩
  | succ n ih =>
    intro f L w s wt pre b C hlen hf hpl hL hnp hCK h18 hb hO hB hwt
    have more : ¬ (bitsL L).length ≤ 1 := by omega
    unfold rB5_tryOrders
    rw [if_neg (show ¬ (5 : Int32) ≤ nI pre.length from nI_ge (b := 5) (by omega) (by decide)), h18]
    by_cases z : wt < b.1
    · rw [if_pos (nI_lt z (by omega)), FE_more tr (n + 1) (bitsL L) more]
      obtain ⟨f', rfl⟩ : ∃ f', f = f' + 1 := ⟨f - 1, by omega⟩
      have c4 : C 35 4 = w := hCK.1.1
      have c5 : C 35 5 = s := hCK.1.2.1
      rw [c4, c5]
      obtain ⟨u, q1, q2⟩ := loop1 (fun g k (c : mI) => lB5_tryOrders_36 (fun J y0 y1 y2 y3 => r5_tryOrders (f' + 1) J 35 y0 y1 y2 y3) 35 (nI p) (nI L) (nI pre.length) (nI wt) w s g (nI k) c) (fun k c => CK C0 c w s (fun k => L.testBit k = true) ∧ Ord c 42 pre ∧ c 1 8 = nI (((List.range k).filter (fun i => L.testBit i)).foldl (fun b q => FE tr (n + 1) ((bitsL L).erase q) (tr q w s).2.1 (tr q w s).2.2 (wt + (tr q w s).1) (pre ++ [q]) b) b).1 ∧ Ord c 43 (((List.range k).filter (fun i => L.testBit i)).foldl (fun b q => FE tr (n + 1) ((bitsL L).erase q) (tr q w s).2.1 (tr q w s).2.2 (wt + (tr q w s).1) (pre ++ [q]) b) b).2 ∧ (((List.range k).filter (fun i => L.testBit i)).foldl (fun b q => FE tr (n + 1) ((bitsL L).erase q) (tr q w s).2.1 (tr q w s).2.2 (wt + (tr q w s).1) (pre ++ [q]) b) b).1 ≤ 300 ∧ (∀ a, ¬ (a = 1 ∨ (35 ≤ a ∧ a ≤ 38) ∨ (40 ≤ a ∧ a ≤ 43)) → c a = C a) ∧ (∀ k, ¬ L.testBit k = true → c 36 k = C 36 k)) (fun r => ∃ C', r = .inr C' ∧ CK C0 C' w s (fun k => L.testBit k = true) ∧ Ord C' 42 pre ∧ C' 1 8 = nI ((bitsL L).foldl (fun b q => FE tr (n + 1) ((bitsL L).erase q) (tr q w s).2.1 (tr q w s).2.2 (wt + (tr q w s).1) (pre ++ [q]) b) b).1 ∧ Ord C' 43 ((bitsL L).foldl (fun b q => FE tr (n + 1) ((bitsL L).erase q) (tr q w s).2.1 (tr q w s).2.2 (wt + (tr q w s).1) (pre ++ [q]) b) b).2 ∧ (∀ a, ¬ (a = 1 ∨ (35 ≤ a ∧ a ≤ 38) ∨ (40 ≤ a ∧ a ≤ 43)) → C' a = C a) ∧ (∀ k, ¬ L.testBit k = true → C' 36 k = C 36 k)) 12
        (fun c ⟨h1, h2, h3, h4, _, h6, h7⟩ => ⟨.inr c, fun g => by show lB5_tryOrders_36 _ _ _ _ _ _ _ _ (g + 1) _ _ = _; rw [lB5_tryOrders_36, if_pos (by decide)], c, rfl, h1, h2, h3, h4, h6, h7⟩)
        (fun k c hk ⟨h1, h2, h3, h4, h5, h6, h7⟩ => by
          rw [List.range_succ, List.filter_append, List.foldl_append]
          generalize hbk : ((List.range k).filter (fun i => L.testBit i)).foldl (fun b q => FE tr (n + 1) ((bitsL L).erase q) (tr q w s).2.1 (tr q w s).2.2 (wt + (tr q w s).1) (pre ++ [q]) b) b = bk at *
          by_cases hb' : L.testBit k = true
          · have fl : ([k].filter (fun i => L.testBit i)) = [k] := by rw [List.filter_cons_of_pos hb', List.filter_nil]
            rw [fl]
            show _ ∨ ∃ a', _ ∧ CK C0 a' w s (fun k => L.testBit k = true) ∧ Ord a' 42 pre ∧ a' 1 8 = nI (FE tr (n + 1) ((bitsL L).erase k) (tr k w s).2.1 (tr k w s).2.2 (wt + (tr k w s).1) (pre ++ [k]) bk).1 ∧ Ord a' 43 (FE tr (n + 1) ((bitsL L).erase k) (tr k w s).2.1 (tr k w s).2.2 (wt + (tr k w s).1) (pre ++ [k]) bk).2 ∧ (FE tr (n + 1) ((bitsL L).erase k) (tr k w s).2.1 (tr k w s).2.2 (wt + (tr k w s).1) (pre ++ [k]) bk).1 ≤ 300 ∧ _ ∧ _
            have ne2 : ¬ L = 2 ^ k := fun e => more ((bits_one hL hk hb').mpr e)
            have kn := hnp k hb'
            obtain ⟨tn, tC, _⟩ := htr k w s kn
            have hCK0 : CK C0 (mW c 42 pre.length (nI k)) w s (fun k => L.testBit k = true) := by
              obtain ⟨⟨c4, c5, c6, c7, c10⟩, cp, cr, c1⟩ := h1
              refine ⟨⟨c4, c5, c6, c7, c10⟩, cp, fun a ha => by rw [mW_ne _ _ _ (by omega), cr a ha], by rw [mW_ne _ _ _ (by decide), c1]⟩
            obtain ⟨v, C1, C2, p1, p2, hCK2, g1, g2, g3⟩ := tC _ _ hCK0 hb'
            have mem : k ∈ bitsL L := bits_mem.mpr ⟨hk, hb'⟩
            have len := List.length_erase_of_mem mem
            have bL : bitsL (L ^^^ 2 ^ k) = (bitsL L).erase k := bits_erase hb'
            have lt : L ^^^ 2 ^ k < 4096 := Nat.xor_lt_two_pow (n := 12) hL (Nat.pow_lt_pow_right (by decide) hk)
            have tb : ∀ j, (L ^^^ 2 ^ k).testBit j = true ↔ (L.testBit j = true ∧ j ≠ k) := fun j => by
              rw [Nat.testBit_xor, Nat.testBit_two_pow]
              by_cases e : k = j
              · subst e; rw [hb']; simp
              · have : j ≠ k := fun x => e x.symm
                simp [e, this]
            have g42 : C2 42 = (mW c 42 pre.length (nI k)) 42 := g1 42 (by omega) (by decide) (by decide)
            obtain ⟨C3, r1, r2, r3, r4, r5, r6, r7⟩ := ih f' (L ^^^ 2 ^ k) (tr k w s).2.1 (tr k w s).2.2 (wt + (tr k w s).1) (pre ++ [k]) bk C2 (by rw [bL, len]; omega) (by omega) (by rw [List.length_append]; show pre.length + 1 + (n + 1) ≤ 5; omega) lt (fun q hq => hnp q ((tb q).mp hq).1) (CK_sub hCK2 (fun j hj => (tb j).mp hj)) (by rw [g1 1 (by omega) (by decide) (by decide), mW_ne _ _ _ (by decide), h3]) h5 (by
                intro i hi
                rw [g42]
                exact Ord_app (C := c) h2 (fun i hi => mW_off _ _ (by omega)) (mW_at _ _ _ _) i hi) (by
                intro i hi
                rw [g1 43 (by omega) (by decide) (by decide), mW_ne _ _ _ (by decide), h4 i hi]) (by omega)
            rw [bL] at r4 r5
            have fe := FE_le tr (n + 1) ((bitsL L).erase k) (tr k w s).2.1 (tr k w s).2.2 (wt + (tr k w s).1) (pre ++ [k]) bk
            have c36 : C3 36 k = c 36 k + 1 := by
              rw [r7 k (by rw [tb]; exact fun x => x.2 rfl), g3, mW_ne _ _ _ (by decide)]
            refine .inr ⟨mW (mW (mW C3 36 k (C3 36 k - 1)) 35 4 w) 35 5 s, fun g _ => ?_, ?_, ?_, ?_, ?_, by omega, fun a ha => ?_, fun j hj => ?_⟩
            · show lB5_tryOrders_36 _ _ _ _ _ _ _ _ (g + 1) _ _ = _
              rw [lB5_tryOrders_36, if_neg (show ¬ (12 : Int32) ≤ nI k from nI_ge (b := 12) hk (by decide)), if_neg (fun r => (left_t hk).mp r hb'), mSto_n (by omega) (by decide), Option.bind_some, if_neg (by rw [sh_pow k (by omega)]; intro e; exact ne2 ((nI_eq (by omega) (by have : 2 ^ k < 2 ^ 12 := Nat.pow_lt_pow_right (by decide) hk; omega)).mp e)), p1, Option.bind_some]
              dsimp only
              rw [p2, Option.bind_some]
              dsimp only
              rw [left_x hk hb', nI_1, nI_add]
              have r1' : r5_tryOrders (f' + 1) C2 35 (nI p) (nI (L ^^^ 2 ^ k)) (nI (pre.length + 1)) (nI (wt + (tr k w s).1)) = some C3 := by
                rw [List.length_append] at r1
                exact r1
              rw [r1', Option.bind_some, mLd_n hk (by decide), Option.bind_some, mSto_n hk (by decide), Option.bind_some, nI_1]
            · obtain ⟨⟨d4, d5, d6, d7, d10⟩, dp, dr, d1⟩ := r2
              have rc : ∀ j, j ≠ 4 → j ≠ 5 → (mW (mW (mW C3 36 k (C3 36 k - 1)) 35 4 w) 35 5 s) 35 j = C3 35 j := fun j a b => by rw [mW_off _ _ b, mW_off _ _ a, mW_ne _ _ _ (by decide)]
              refine ⟨⟨by rw [mW_off _ _ (by decide), mW_at], mW_at _ _ _ _, by rw [rc 6 (by decide) (by decide), d6], by rw [rc 7 (by decide) (by decide), d7], by rw [rc 10 (by decide) (by decide), d10]⟩, fun j hj hS => ?_, fun a ha => by rw [mW_ne _ _ _ (by omega), mW_ne _ _ _ (by omega), mW_ne _ _ _ (by omega), dr a ha], by rw [mW_ne _ _ _ (by decide), mW_ne _ _ _ (by decide), mW_ne _ _ _ (by decide), d1]⟩
              rw [mW_ne _ _ _ (by decide), mW_ne _ _ _ (by decide)]
              by_cases e : j = k
              · rw [e, mW_at, c36, Int32.add_sub_cancel, h1.2.1 k hk hb']
              · rw [mW_off _ _ e, dp j hj ((tb j).mpr ⟨hS, e⟩)]
            · intro i hi
              rw [mW_ne _ _ _ (by decide), mW_ne _ _ _ (by decide), mW_ne _ _ _ (by decide)]
              exact Ord_pre r3 i hi
            · rw [mW_ne _ _ _ (by decide), mW_ne _ _ _ (by decide), mW_ne _ _ _ (by decide), r4]
            · intro i hi
              rw [mW_ne _ _ _ (by decide), mW_ne _ _ _ (by decide), mW_ne _ _ _ (by decide)]
              exact r5 i hi
            · rw [mW_ne _ _ _ (by omega), mW_ne _ _ _ (by omega), mW_ne _ _ _ (by omega), r6 a ha, g1 a (by omega) (by omega) (by omega), mW_ne _ _ _ (by omega), h6 a ha]
            · have jk : j ≠ k := fun e => hj (by rw [e]; exact hb')
              rw [mW_ne _ _ _ (by decide), mW_ne _ _ _ (by decide), mW_off _ _ jk, r7 j (fun x => hj ((tb j).mp x).1), g2 j jk, mW_ne _ _ _ (by decide), h7 j hj]
          · have fl : ([k].filter (fun i => L.testBit i)) = [] := by rw [List.filter_cons_of_neg hb', List.filter_nil]
            rw [fl]
            refine .inr ⟨c, fun g _ => ?_, h1, h2, h3, h4, h5, h6, h7⟩
            show lB5_tryOrders_36 _ _ _ _ _ _ _ _ (g + 1) _ _ = _
            rw [lB5_tryOrders_36, if_neg (show ¬ (12 : Int32) ≤ nI k from nI_ge (b := 12) hk (by decide)), if_pos ((left_t hk).mpr hb'), nI_1]) 12 0 FU C (by omega) (FU_lt (by omega)) ⟨hCK, hO, h18, hB, hb, fun _ _ => rfl, fun _ _ => rfl⟩
      obtain ⟨C', rfl, r⟩ := q2
      refine ⟨C', ?_, r⟩
      rw [show lB5_tryOrders_36 (fun J y0 y1 y2 y3 => r5_tryOrders (f' + 1) J 35 y0 y1 y2 y3) 35 (nI p) (nI L) (nI pre.length) (nI wt) w s FU 0 C = some (.inr C') from q1, Option.bind_some]
    · rw [if_neg (nI_nlt (by omega) (by omega)), FE_prune _ _ _ _ _ _ _ _ (by omega)]
      exact ⟨C, rfl, hCK, hO, h18, hB, fun _ _ => rfl, fun _ _ => rfl⟩

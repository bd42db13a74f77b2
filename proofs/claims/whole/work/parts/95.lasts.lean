/-! LASTS: the reference's orders against the class's -/
def sumL (h : Nat → Nat) : List Nat → Nat
  | [] => 0
  | q :: l => h q + sumL h l
theorem sumL_perm {h : Nat → Nat} {l l' : List Nat} (p : l.Perm l') : sumL h l = sumL h l' := by
  induction p with
  | nil => rfl
  | cons x _ ih => show h x + _ = h x + _; rw [ih]
  | swap x y l => show h y + (h x + _) = h x + (h y + _); omega
  | trans _ _ i1 i2 => rw [i1, i2]
theorem lexp_perm : ∀ n ls, ls.length ≤ n → ∀ l ∈ lexp n ls, l.Perm ls
  | 0, ls, _, l, h => absurd h (by unfold lexp; simp)
  | n + 1, ls, hl, l, h => by
    unfold lexp at h
    rw [List.mem_flatMap] at h
    obtain ⟨q, hq, h⟩ := h
    by_cases z : ls.length ≤ 1
    · rw [if_pos z, List.mem_singleton] at h
      have pos := List.length_pos_of_mem hq
      match ls, hq, z, pos with
      | [x], hq, _, _ =>
        have : q = x := by simpa using hq
        rw [h, this]
    · rw [if_neg z, List.mem_map] at h
      obtain ⟨l', hl', e⟩ := h
      have len := List.length_erase_of_mem hq
      have := lexp_perm n (ls.erase q) (by omega) l' hl'
      rw [← e]
      exact (this.cons q).trans (List.perm_cons_erase hq).symm
theorem fm_ext {α β : Type} {f g : α → List β} : ∀ (l : List α), (∀ x ∈ l, f x = g x) → l.flatMap f = l.flatMap g
  | [], _ => rfl
  | x :: l, h => by
    rw [List.flatMap_cons, List.flatMap_cons, h x (List.mem_cons_self ..), fm_ext l (fun y hy => h y (List.mem_cons_of_mem _ hy))]
theorem erase_a {a : Nat → Nat} {q : Nat} : ∀ ls : List Nat, (∀ x ∈ ls, a x = a q → x = q) → (ls.map a).erase (a q) = (ls.erase q).map a
  | [], _ => rfl
  | x :: ls, h => by
    by_cases e : x = q
    · subst e
      rw [List.map_cons, List.erase_cons_head, List.erase_cons_head]
    · have ne : ¬ (a x = a q) := fun k => e (h x (List.mem_cons_self ..) k)
      rw [List.map_cons, List.erase_cons_tail (by simpa using ne), List.erase_cons_tail (by simpa using e), List.map_cons, erase_a ls (fun y hy => h y (List.mem_cons_of_mem _ hy))]
theorem lexp_map {a : Nat → Nat} : ∀ n (ls : List Nat), (∀ x ∈ ls, ∀ y ∈ ls, a x = a y → x = y) → lexp n (ls.map a) = (lexp n ls).map (List.map a)
  | 0, ls, _ => rfl
  | n + 1, ls, h => by
    unfold lexp
    rw [List.flatMap_map, List.map_flatMap]
    refine fm_ext ls (fun q hq => ?_)
    rw [List.length_map]
    by_cases z : ls.length ≤ 1
    · rw [if_pos z, if_pos z]; rfl
    · rw [if_neg z, if_neg z, erase_a ls (fun x hx e => h x hx q hq e), lexp_map n (ls.erase q) (fun x hx y hy e => h x (List.mem_of_mem_erase hx) y (List.mem_of_mem_erase hy) e), List.map_map, List.map_map]
      rfl
theorem add_lc (a b c : Int32) : a + (b + c) = b + (a + c) := by rw [← Int32.add_assoc, Int32.add_comm a b, Int32.add_assoc]
/-- an order played through -/
theorem run_l {C0 M0 : mI} {p np : Nat} {tr : Nat → Int32 → Int32 → Nat × Int32 × Int32} {lg : Nat → Nat} (htr : ∀ q w s, q < np → TrP C0 M0 p q w s (tr q w s)) (hlg : ∀ q, q < np → M0 123 q = nI (lg q)) : ∀ (l : List Nat) (i : Nat) (M : mI) (w s : Int32), l ≠ [] → (∀ j, j < l.length → M 144 (i + j) = nI (l.getD j 0)) → M 119 45 = nI (i + l.length) → i + l.length ≤ 5 → (∀ q ∈ l, q < np ∧ q < 12) → l.Nodup → MK M0 M w s (fun k => k ∈ l) → ∃ M', (∀ f, l.length < f → l10_minutesOf_22 (nI p) f (nI i) M = some M') ∧ M' 120 7 + M' 120 8 = (M 120 7 + M 120 8) + nI (sumL lg l + totW tr w s l) ∧ (∀ a, a ≠ 120 → a ≠ 142 → a ≠ 143 → M' a = M a)
  | [], _, _, _, _, h, _, _, _, _, _, _ => absurd rfl h
  | q :: l, i, M, w, s, _, hR, em, hm, hq, hnd, hMK => by
    obtain ⟨qn, q12⟩ := hq q (List.mem_cons_self ..)
    obtain ⟨tn, _, tM⟩ := htr q w s qn
    obtain ⟨v, M1, M2, p1, p2, hMK2, f1, f2, e7, e8, e72, e82⟩ := tM M _ hMK (List.mem_cons_self ..)
    rw [hlg q qn] at e7 e72
    have hm' : i + (l.length + 1) ≤ 5 := hm
    have em' : M 119 45 = nI (i + (l.length + 1)) := em
    have ld : mLd M 144 5 (nI i) = some (nI q) := by
      rw [mLd_n (by omega) (by decide)]
      have := hR 0 (by show 0 < l.length + 1; omega)
      rw [Nat.add_zero] at this
      rw [this]; rfl
    have m1 : M1 119 45 = nI (i + (l.length + 1)) := by rw [f1 119 (by decide) (by decide) (by decide), em']
    have s1 : nI (i + (l.length + 1)) - 1 = nI (i + l.length) := nI_pred (i + l.length)
    by_cases z : l = []
    · subst z
      refine ⟨M1, fun f hf => ?_, ?_, f1⟩
      · obtain ⟨f, rfl⟩ : ∃ g, f = g + 1 := ⟨f - 1, by have : 1 < f := hf; omega⟩
        obtain ⟨f, rfl⟩ : ∃ g, f = g + 1 := ⟨f - 1, by have : 1 < f + 1 := hf; omega⟩
        rw [l10_minutesOf_22, em', if_neg (nI_ge (by omega) (by omega)), ld, Option.bind_some, p1, Option.bind_some]
        dsimp only
        rw [if_pos (show M1 119 45 - 1 ≤ nI i by rw [m1, s1]; exact nI_le (show i + ([] : List Nat).length ≤ i from Nat.le_refl _) (by omega)), Option.bind_some, l10_minutesOf_22, m1, nI_1, if_pos (nI_le (show i + (([] : List Nat).length + 1) ≤ i + 1 from Nat.le_refl _) (by omega))]
      · rw [e7, e8]
        have : sumL lg [q] + totW tr w s [q] = lg q := by
          show lg q + 0 + 0 = lg q
          omega
        rw [this]
        simp only [Int32.add_assoc, add_lc, Int32.add_comm]
    · have lpos : 0 < l.length := List.length_pos_iff.mpr z
      have nd := List.nodup_cons.mp hnd
      have e144 : M2 144 = M 144 := f2 144 (by decide) (by decide) (by decide)
      obtain ⟨M', r1, r2, r3⟩ := run_l htr hlg l (i + 1) M2 (tr q w s).2.1 (tr q w s).2.2 z (fun j hj => by
          rw [e144, show i + 1 + j = i + (j + 1) by omega, hR (j + 1) (by show j + 1 < l.length + 1; omega)]
          rfl) (by rw [f2 119 (by decide) (by decide) (by decide), em', show i + 1 + l.length = i + (l.length + 1) by omega]) (by omega) (fun x hx => hq x (List.mem_cons_of_mem _ hx)) nd.2 (MK_sub hMK2 (fun k hk => ⟨List.mem_cons_of_mem _ hk, fun e => nd.1 (e ▸ hk)⟩))
      refine ⟨M', fun f hf => ?_, ?_, fun a x y t => by rw [r3 a x y t, f2 a x y t]⟩
      · have hf' : l.length + 1 < f := hf
        obtain ⟨f, rfl⟩ : ∃ g, f = g + 1 := ⟨f - 1, by omega⟩
        have ld1 : mLd M1 144 5 (nI i) = some (nI q) := by
          rw [mLd_n (by omega) (by decide)] at ld ⊢
          rw [f1 144 (by decide) (by decide) (by decide)]
          exact ld
        rw [l10_minutesOf_22, em', if_neg (nI_ge (by omega) (by omega)), ld, Option.bind_some, p1, Option.bind_some]
        dsimp only
        rw [if_neg (show ¬ M1 119 45 - 1 ≤ nI i by rw [m1, s1]; exact nI_ge (by omega) (by omega)), ld1, Option.bind_some, p2, Option.bind_some, Option.bind_some, nI_1]
        exact r1 f (by omega)
      · rw [r2, e72, e82]
        have t : totW tr w s (q :: l) = (tr q w s).1 + totW tr (tr q w s).2.1 (tr q w s).2.2 l := by
          show (if l = [] then 0 else _) = _
          rw [if_neg z]
        have e : nI (sumL lg (q :: l) + totW tr w s (q :: l)) = nI (lg q) + nI (tr q w s).1 + nI (sumL lg l + totW tr (tr q w s).2.1 (tr q w s).2.2 l) := by
          rw [t, nI_add, nI_add]
          congr 1
          show lg q + sumL lg l + _ = _
          omega
        rw [e]
        simp only [Int32.add_assoc, add_lc, Int32.add_comm]
/-- what the reference's orders leave -/
def GoodM (Ms M : mI) (m : Nat) : Prop := (∀ k, k < 47 → M 120 k = Ms 120 k) ∧ (∀ a, ¬ (a = 119 ∨ a = 120 ∨ a = 122 ∨ (142 ≤ a ∧ a ≤ 145)) → M a = Ms a) ∧ (∀ k, k ≠ 5 → M 119 k = Ms 119 k) ∧ M 119 5 = 0 ∧ M 119 45 = nI m
theorem minutes_m {C0 Ms : mI} {p np m : Nat} {tr : Nat → Int32 → Int32 → Nat × Int32 × Int32} {lg : Nat → Nat} (htr : ∀ q w s, q < np → TrP C0 (mW Ms 119 5 1) p q w s (tr q w s)) (hlg : ∀ q, q < np → (mW Ms 119 5 1) 123 q = nI (lg q)) {l : List Nat} (hl : l.length = m) (h1 : 1 ≤ m) (hm : m ≤ 5) (hq : ∀ q ∈ l, q < np ∧ q < 12) (hnd : l.Nodup) {M : mI} (hG : GoodM Ms M m) (hR : Ord M 144 l) : ∃ M', r10_minutesOf M (nI p) = some (nI (sumL lg l + totW tr (Ms 120 3) (Ms 120 4) l), M') ∧ GoodM Ms M' m ∧ M' 144 = M 144 ∧ M' 145 = M 145 := by
  obtain ⟨g1, g2, g3, g4, g5⟩ := hG
  have t120 : (mW (mU M 122 (cpf (M 120) (M 122) 0 0 47)) 119 5 1) 120 = M 120 := by rw [mW_ne _ _ _ (by decide), mU_ne _ _ (by decide)]
  have t119 : ∀ k, k ≠ 5 → (mW (mU M 122 (cpf (M 120) (M 122) 0 0 47)) 119 5 1) 119 k = M 119 k := fun k hk => by rw [mW_off _ _ hk, mU_ne _ _ (by decide)]
  have tr' : ∀ a, a ≠ 119 → a ≠ 122 → (mW (mU M 122 (cpf (M 120) (M 122) 0 0 47)) 119 5 1) a = M a := fun a h1 h2 => by rw [mW_ne _ _ _ h1, mU_ne _ _ h2]
  have t122 : ∀ k, k < 47 → (mW (mU M 122 (cpf (M 120) (M 122) 0 0 47)) 119 5 1) 122 k = M 120 k := fun k hk => by
    rw [mW_ne _ _ _ (by decide), mU_eq]
    have := cpf_in (g := M 120) (h := M 122) (o := 0) (d := 0) (N := 47) hk
    rw [Nat.zero_add] at this
    exact this
  have t5 : (mW (mU M 122 (cpf (M 120) (M 122) 0 0 47)) 119 5 1) 119 5 = 1 := mW_at _ _ _ _
  have eth := thinks_e M
  generalize mW (mU M 122 (cpf (M 120) (M 122) 0 0 47)) 119 5 1 = T at *
  have b120 : (mW Ms 119 5 1) 120 = Ms 120 := mW_ne _ _ _ (by decide)
  have hMK : MK (mW Ms 119 5 1) T (Ms 120 3) (Ms 120 4) (fun k => k ∈ l) := by
    refine ⟨⟨by rw [t120, g1 3 (by decide)], by rw [t120, g1 4 (by decide)], by rw [t120, g1 5 (by decide), b120], by rw [t120, g1 6 (by decide), b120], by rw [t120, g1 0 (by decide), b120]⟩, fun k hk _ => by rw [t120, g1 _ (by omega), b120], fun a ha => by rw [tr' a (by omega) (by omega), g2 a (by omega), mW_ne _ _ _ (by omega)], ⟨by rw [t119 6 (by decide), g3 6 (by decide), mW_off _ _ (by decide)], by rw [t119 7 (by decide), g3 7 (by decide), mW_off _ _ (by decide)]⟩, t5⟩
  obtain ⟨M1, r1, r2, r3⟩ := run_l htr hlg l 0 T (Ms 120 3) (Ms 120 4) (fun e => by rw [e] at hl; have : 0 = m := hl; omega) (fun j hj => by rw [Nat.zero_add, tr' 144 (by decide) (by decide)]; exact hR j hj) (by rw [t119 45 (by decide), g5, Nat.zero_add, hl]) (by omega) hq hnd hMK
  refine ⟨mW (mU M1 120 (cpf (M1 122) (M1 120) 0 0 47)) 119 5 0, ?_, ⟨fun k hk => ?_, fun a ha => ?_, fun k hk => ?_, mW_at _ _ _ _, ?_⟩, ?_, ?_⟩
  · unfold r10_minutesOf
    rw [eth, Option.bind_some, show l10_minutesOf_22 (nI p) FU 0 T = some M1 from r1 FU (FU_lt (by omega)), Option.bind_some, ends_e, Option.bind_some, r2, Int32.add_comm (T 120 7 + T 120 8), Int32.add_sub_cancel]
  · rw [mW_ne _ _ _ (by decide), mU_eq]
    have := cpf_in (g := M1 122) (h := M1 120) (o := 0) (d := 0) (N := 47) hk
    rw [Nat.zero_add] at this
    rw [this, r3 122 (by decide) (by decide) (by decide), t122 k hk, g1 k hk]
  · rw [mW_ne _ _ _ (by omega), mU_ne _ _ (by omega), r3 a (by omega) (by omega) (by omega), tr' a (by omega) (by omega), g2 a ha]
  · rw [mW_off _ _ hk, mU_ne _ _ (by decide), r3 119 (by decide) (by decide) (by decide), t119 k hk, g3 k hk]
  · rw [mW_off _ _ (by decide), mU_ne _ _ (by decide), r3 119 (by decide) (by decide) (by decide), t119 45 (by decide), g5]
  · rw [mW_ne _ _ _ (by decide), mU_ne _ _ (by decide), r3 144 (by decide) (by decide) (by decide), tr' 144 (by decide) (by decide)]
  · rw [mW_ne _ _ _ (by decide), mU_ne _ _ (by decide), r3 145 (by decide) (by decide) (by decide), tr' 145 (by decide) (by decide)]
theorem copy143 {M : mI} {m : Nat} (hm : m ≤ 5) (em : M 119 45 = nI m) {x y : Int32} (h : ¬ x ≤ y) : ∃ M', l10_lasts_143 x y FU 0 M = some M' ∧ (∀ i, i < m → M' 145 i = M 144 i) ∧ (∀ a, a ≠ 145 → M' a = M a) := by
  exact loop1 (fun f k (c : mI) => l10_lasts_143 x y f (nI k) c) (fun k c => (∀ i, i < k → c 145 i = M 144 i) ∧ (∀ a, a ≠ 145 → c a = M a)) (fun c => (∀ i, i < m → c 145 i = M 144 i) ∧ (∀ a, a ≠ 145 → c a = M a)) m
    (fun c hc => ⟨c, fun f => by show l10_lasts_143 _ _ (f + 1) _ _ = _; rw [l10_lasts_143, hc.2 119 (by decide), em, if_pos (by rw [i32_le]; omega)], hc⟩)
    (fun k c hk ⟨h1, h2⟩ => .inr ⟨mW c 145 k (M 144 k), fun f _ => by
      show l10_lasts_143 _ _ (f + 1) _ _ = _
      rw [l10_lasts_143, h2 119 (by decide), em, if_neg (nI_ge hk (by omega)), if_neg h, mLd_n (by omega) (by decide), Option.bind_some, mSto_n (by omega) (by decide), Option.bind_some, nI_1, h2 144 (by decide)], fun i hi => by
      by_cases e : i = k
      · rw [e, mW_at]
      · rw [mW_off _ _ e, h1 i (by omega)], fun a ha => by rw [mW_ne _ _ _ ha, h2 a ha]⟩) m 0 FU M (by omega) (FU_lt (by omega)) ⟨fun i hi => absurd hi (Nat.not_lt_zero _), fun _ _ => rfl⟩
theorem copy143n {M : mI} {x y : Int32} (h : x ≤ y) : l10_lasts_143 x y FU 0 M = some M := by
  have fu := FU_lt (n := 100) (by omega)
  rw [show FU = (FU - 1) + 1 by omega, l10_lasts_143, if_pos h, ite_self]
/-- the best so far, on both sides -/
def Rbst (M : mI) (m Sl : Nat) (y : Int32) (b : Nat × List Nat) : Prop := (b = (300, []) ∧ y = 100000000) ∨ (y = nI (Sl + b.1) ∧ b.1 ≤ 300 ∧ Ord M 145 b.2 ∧ b.2.length = m)
theorem tot_le {C0 M0 : mI} {p np : Nat} {tr : Nat → Int32 → Int32 → Nat × Int32 × Int32} (htr : ∀ q w s, q < np → TrP C0 M0 p q w s (tr q w s)) : ∀ (l : List Nat) (w s : Int32), (∀ q ∈ l, q < np) → totW tr w s l + 60 ≤ 60 * l.length + 60
  | [], _, _, _ => by show 0 + 60 ≤ 60 * 0 + 60; omega
  | q :: l, w, s, h => by
    have ih := tot_le htr l (tr q w s).2.1 (tr q w s).2.2 (fun x hx => h x (List.mem_cons_of_mem _ hx))
    have := (htr q w s (h q (List.mem_cons_self ..))).1
    show (if l = [] then 0 else (tr q w s).1 + totW tr (tr q w s).2.1 (tr q w s).2.2 l) + 60 ≤ 60 * (l.length + 1) + 60
    by_cases z : l = []
    · rw [if_pos z]; omega
    · rw [if_neg z]; omega
theorem tot_le4 {C0 M0 : mI} {p np : Nat} {tr : Nat → Int32 → Int32 → Nat × Int32 × Int32} (htr : ∀ q w s, q < np → TrP C0 M0 p q w s (tr q w s)) : ∀ (l : List Nat) (w s : Int32), (∀ q ∈ l, q < np) → 1 ≤ l.length → totW tr w s l + 60 ≤ 60 * l.length
  | [], _, _, _, h => absurd h (by simp)
  | [q], w, s, _, _ => by show 0 + 60 ≤ 60 * 1; omega
  | q :: r :: l, w, s, h, _ => by
    have ih := tot_le4 htr (r :: l) (tr q w s).2.1 (tr q w s).2.2 (fun x hx => h x (List.mem_cons_of_mem _ hx)) (by simp)
    have := (htr q w s (h q (List.mem_cons_self ..))).1
    show (if (r :: l) = [] then 0 else (tr q w s).1 + totW tr (tr q w s).2.1 (tr q w s).2.2 (r :: l)) + 60 ≤ 60 * ((r :: l).length + 1)
    rw [if_neg (by simp)]
    omega
theorem getD_map {a : Nat → Nat} {x : List Nat} {i : Nat} (h : i < x.length) : (x.map a).getD i 0 = a (x.getD i 0) := by
  rw [List.getD_eq_getElem?_getD, List.getD_eq_getElem?_getD, List.getElem?_map, List.getElem?_eq_getElem h]
  rfl
theorem orders_m {C0 Ms : mI} {p np m Sl : Nat} {tr : Nat → Int32 → Int32 → Nat × Int32 × Int32} {lg a : Nat → Nat} (htr : ∀ q w s, q < np → TrP C0 (mW Ms 119 5 1) p q w s (tr q w s)) (hlg : ∀ q, q < np → (mW Ms 119 5 1) 123 q = nI (lg q)) (h1 : 1 ≤ m) (hm : m ≤ 5) (hSl : Sl ≤ 400) (ha : ∀ x y, x < m → y < m → (a x ≤ a y ↔ x ≤ y)) (han : ∀ x, x < m → a x < np ∧ a x < 12) : ∀ (os : List (List Nat)), os ≠ [] → chk m os = true → (∀ x ∈ os, (x.map a).Nodup ∧ sumL lg (x.map a) = Sl) → ∀ (M : mI) (y : Int32) (b : Nat × List Nat), GoodM Ms M m → Ord M 144 ((os.headD []).map a) → Rbst M m Sl y b → ∀ f, os.length < f → ∃ y' M', l10_lasts_128 (nI p) f y 1 M = some (y', M') ∧ GoodM Ms M' m ∧ Rbst M' m Sl y' ((os.map (List.map a)).foldl (bst tr (Ms 120 3) (Ms 120 4) 0 []) b) ∧ y' ≠ 100000000
  | [], h, _, _, _, _, _, _, _, _, _, _ => absurd rfl h
  | x :: os, _, hc, hx, M, y, b, hG, hO, hB, f, hf => by
    have hO : Ord M 144 (x.map a) := hO
    obtain ⟨nd, sm⟩ := hx x (List.mem_cons_self ..)
    have hxl : x.length = m ∧ (∀ z ∈ x, z < m) ∧ ((os = [] ∧ nxt m (fun i => x.getD i 0) = none) ∨ (∃ y l g, os = y :: l ∧ nxt m (fun i => x.getD i 0) = some g ∧ (∀ i, i < m → g i = y.getD i 0) ∧ chk m os = true)) := by
      match os, hc with
      | [], hc =>
        unfold chk at hc
        simp only [Bool.and_eq_true, beq_iff_eq, List.all_eq_true, decide_eq_true_eq, Option.isNone_iff_eq_none] at hc
        exact ⟨hc.1.1, hc.1.2, .inl ⟨rfl, hc.2⟩⟩
      | y :: l, hc =>
        unfold chk at hc
        simp only [Bool.and_eq_true, beq_iff_eq, List.all_eq_true, decide_eq_true_eq] at hc
        obtain ⟨⟨⟨c1, c2⟩, c3⟩, c4⟩ := hc
        refine ⟨c1, c2, .inr ?_⟩
        cases hn : nxt m (fun i => x.getD i 0) with
        | none => rw [hn] at c3; exact absurd c3 (by simp)
        | some g =>
          rw [hn] at c3
          simp only [List.all_eq_true, List.mem_range, beq_iff_eq] at c3
          exact ⟨y, l, g, rfl, rfl, c3, c4⟩
    obtain ⟨xl, xm, xn⟩ := hxl
    have ol : (x.map a).length = m := by rw [List.length_map, xl]
    have oq : ∀ q ∈ x.map a, q < np ∧ q < 12 := fun q hq => by
      obtain ⟨z, hz, e⟩ := List.mem_map.mp hq
      rw [← e]; exact han z (xm z hz)
    obtain ⟨M1, r1, G1, e144, e145⟩ := minutes_m htr hlg ol h1 hm oq nd hG hO
    rw [sm] at r1
    have tb := tot_le4 htr (x.map a) (Ms 120 3) (Ms 120 4) (fun q hq => (oq q hq).1) (by omega)
    rw [ol] at tb
    have tb : totW tr (Ms 120 3) (Ms 120 4) (x.map a) ≤ 240 := by omega
    generalize ht : totW tr (Ms 120 3) (Ms 120 4) (x.map a) = t at *
    have em1 : M1 119 45 = nI m := G1.2.2.2.2
    -- the best
    have st : ∃ M2, l10_lasts_143 y (nI (Sl + t)) FU 0 M1 = some M2 ∧ (∀ i, i ≠ 145 → M2 i = M1 i) ∧ Rbst M2 m Sl (r10_lesser y (nI (Sl + t))) (bst tr (Ms 120 3) (Ms 120 4) 0 [] b (x.map a)) ∧ r10_lesser y (nI (Sl + t)) ≠ 100000000 := by
      have upd : ¬ y ≤ nI (Sl + t) → t < b.1 → ∃ M2, l10_lasts_143 y (nI (Sl + t)) FU 0 M1 = some M2 ∧ (∀ i, i ≠ 145 → M2 i = M1 i) ∧ Rbst M2 m Sl (r10_lesser y (nI (Sl + t))) (bst tr (Ms 120 3) (Ms 120 4) 0 [] b (x.map a)) ∧ r10_lesser y (nI (Sl + t)) ≠ 100000000 := by
        intro hn hlt
        obtain ⟨M2, c1, c2, c3⟩ := copy143 hm em1 hn
        have e : bst tr (Ms 120 3) (Ms 120 4) 0 [] b (x.map a) = (t, x.map a) := by
          unfold bst
          rw [ht, Nat.zero_add, if_pos hlt]
          rfl
        have el : r10_lesser y (nI (Sl + t)) = nI (Sl + t) := if_pos (by rw [i32_le]; rw [i32_le] at hn; omega)
        refine ⟨M2, c1, c3, .inr ⟨by rw [el, e], by rw [e]; show t ≤ 300; omega, ?_, by rw [e]; exact ol⟩, ?_⟩
        · rw [e]
          intro i hi
          have hi : i < m := by rw [← ol]; exact hi
          rw [c2 i hi, e144]
          exact hO i (by rw [ol]; exact hi)
        · rw [el]
          intro q
          rw [nI_eqk 100000000 100000000 rfl (by decide) (by omega)] at q
          omega
      rcases hB with ⟨hb, hy⟩ | ⟨hy, hb, hBO, hBl⟩
      · refine upd ?_ (by rw [hb]; show t < 300; omega)
        rw [hy]
        exact nI_ge (b := 100000000) (by omega) (by decide)
      · by_cases z : t < b.1
        · exact upd (by rw [hy]; exact nI_ge (by omega) (by omega)) z
        · have le : y ≤ nI (Sl + t) := by rw [hy]; exact nI_le (by omega) (by omega)
          have e : bst tr (Ms 120 3) (Ms 120 4) 0 [] b (x.map a) = b := by
            unfold bst
            rw [ht, Nat.zero_add, if_neg z]
          have el : r10_lesser y (nI (Sl + t)) = y := by
            unfold r10_lesser
            by_cases w : nI (Sl + t) ≤ y
            · rw [if_pos w, i32_eq]; rw [i32_le] at w le; omega
            · rw [if_neg w]
          refine ⟨M1, copy143n le, fun _ _ => rfl, .inr ⟨by rw [el, e, hy], by rw [e]; exact hb, ?_, by rw [e]; exact hBl⟩, ?_⟩
          · rw [e]
            intro i hi
            rw [e145]
            exact hBO i hi
          · rw [el, hy]
            intro q
            rw [nI_eqk 100000000 100000000 rfl (by decide) (by omega)] at q
            omega
    obtain ⟨M2, c1, c2, c3, c4⟩ := st
    have G2 : GoodM Ms M2 m := by
      obtain ⟨g1, g2, g3, g4, g5⟩ := G1
      refine ⟨fun k hk => by rw [c2 120 (by decide), g1 k hk], fun i hi => by rw [c2 i (by omega), g2 i hi], fun k hk => by rw [c2 119 (by decide), g3 k hk], by rw [c2 119 (by decide), g4], by rw [c2 119 (by decide), g5]⟩
    have R2 : Row M2 m (fun i => a (x.getD i 0)) := fun i hi => by
      rw [c2 144 (by decide), e144, hO i (by rw [ol]; exact hi), getD_map (by omega)]
    have hσ : ∀ i, x.getD i 0 < m := fun i => by
      by_cases hi : i < x.length
      · rw [List.getD_eq_getElem?_getD, List.getElem?_eq_getElem hi]
        exact xm _ (List.getElem_mem hi)
      · rw [List.getD_eq_getElem?_getD, List.getElem?_eq_none (by omega)]
        show 0 < m
        omega
    have nx := next_sim h1 hm G2.2.2.2.2 R2 (fun i _ => (han _ (hσ i)).2)
    rw [nxt_a ha hσ] at nx
    obtain ⟨f, rfl⟩ : ∃ g, f = g + 1 := ⟨f - 1, by have : os.length + 1 < f := hf; omega⟩
    have hf' : os.length < f := by have : os.length + 1 < f + 1 := hf; omega
    rcases xn with ⟨hos, hn⟩ | ⟨y2, l2, g, hos, hn, hg, hch⟩
    · subst hos
      rw [hn] at nx
      obtain ⟨f, rfl⟩ : ∃ g, f = g + 1 := ⟨f - 1, by have : 0 < f := hf'; omega⟩
      refine ⟨r10_lesser y (nI (Sl + t)), M2, ?_, G2, c3, c4⟩
      rw [l10_lasts_128, if_neg one_n0, r1, Option.bind_some]
      dsimp only
      rw [c1, Option.bind_some, nx.1 rfl, Option.bind_some]
      dsimp only
      rw [l10_lasts_128, if_pos rfl]
    · rw [hn] at nx
      obtain ⟨M3, n1, n2, n3⟩ := nx.2 _ rfl
      have G3 : GoodM Ms M3 m := by
        obtain ⟨g1, g2, g3, g4, g5⟩ := G2
        refine ⟨fun k hk => by rw [n3 120 (by decide), g1 k hk], fun i hi => by rw [n3 i (by omega), g2 i hi], fun k hk => by rw [n3 119 (by decide), g3 k hk], by rw [n3 119 (by decide), g4], by rw [n3 119 (by decide), g5]⟩
      have y2l : y2.length = m := by
        rw [hos] at hch
        match l2, hch with
        | [], hch =>
          unfold chk at hch
          simp only [Bool.and_eq_true, beq_iff_eq] at hch
          exact hch.1.1
        | _ :: _, hch =>
          unfold chk at hch
          simp only [Bool.and_eq_true, beq_iff_eq] at hch
          exact hch.1.1.1
      have O3 : Ord M3 144 ((os.headD []).map a) := by
        rw [hos]
        show Ord M3 144 (y2.map a)
        intro i hi
        rw [List.length_map, y2l] at hi
        rw [n2 i hi, getD_map (by omega)]
        show nI (a (g i)) = _
        rw [hg i hi]
      have B3 : Rbst M3 m Sl (r10_lesser y (nI (Sl + t))) (bst tr (Ms 120 3) (Ms 120 4) 0 [] b (x.map a)) := by
        rcases c3 with c3 | ⟨d1, d2, d3, d4⟩
        · exact .inl c3
        · exact .inr ⟨d1, d2, fun i hi => by rw [n3 145 (by decide)]; exact d3 i hi, d4⟩
      obtain ⟨y', M', q1, q2, q3, q4⟩ := orders_m htr hlg h1 hm hSl ha han os (by rw [hos]; simp) hch (fun x' hx' => hx x' (List.mem_cons_of_mem _ hx')) M3 (r10_lesser y (nI (Sl + t))) (bst tr (Ms 120 3) (Ms 120 4) 0 [] b (x.map a)) G3 O3 B3 f hf'
      refine ⟨y', M', ?_, q2, q3, q4⟩
      rw [l10_lasts_128, if_neg one_n0, r1, Option.bind_some]
      dsimp only
      rw [c1, Option.bind_some, n1, Option.bind_some]
      exact q1
/-! the set's row -/
theorem bits_s (L k : Nat) : (List.range (k + 1)).filter (fun i => L.testBit i) = (List.range k).filter (fun i => L.testBit i) ++ (if L.testBit k = true then [k] else []) := by
  rw [List.range_succ, List.filter_append]
  by_cases z : L.testBit k = true
  · rw [if_pos z, List.filter_cons_of_pos z, List.filter_nil]
  · rw [if_neg z, List.filter_cons_of_neg z, List.filter_nil]
theorem bits_np {L np : Nat} (h : L < 2 ^ np) : ∀ d, (List.range (np + d)).filter (fun i => L.testBit i) = (List.range np).filter (fun i => L.testBit i)
  | 0 => rfl
  | d + 1 => by
    rw [← Nat.add_assoc, bits_s, if_neg (by rw [Nat.testBit_lt_two_pow (Nat.lt_of_lt_of_le h (Nat.pow_le_pow_right (by decide) (by omega)))]; decide), List.append_nil]
    exact bits_np h d
theorem bits_len (L k : Nat) : ∀ d, ((List.range k).filter (fun i => L.testBit i)).length ≤ ((List.range (k + d)).filter (fun i => L.testBit i)).length
  | 0 => Nat.le_refl _
  | d + 1 => by
    have := bits_len L k d
    rw [← Nat.add_assoc, bits_s, List.length_append]
    omega
theorem build71 {M : mI} {np L : Nat} (hnp : np ≤ 12) (e6 : M 119 6 = nI np) (e45 : M 119 45 = 0) (hL : L < 2 ^ np) (hlen : (bitsL L).length ≤ 5) : ∃ M', l10_lasts_71 (nI L) FU 0 M = some M' ∧ M' 119 45 = nI (bitsL L).length ∧ Ord M' 144 (bitsL L) ∧ (∀ a, a ≠ 119 → a ≠ 144 → M' a = M a) ∧ (∀ k, k ≠ 45 → M' 119 k = M 119 k) := by
  have eb : (List.range np).filter (fun i => L.testBit i) = bitsL L := by
    have := bits_np hL (12 - np)
    rw [show np + (12 - np) = 12 by omega] at this
    exact this.symm
  obtain ⟨M', q1, q2⟩ := loop1 (fun f k (c : mI) => l10_lasts_71 (nI L) f (nI k) c) (fun k c => c 119 45 = nI ((List.range k).filter (fun i => L.testBit i)).length ∧ Ord c 144 ((List.range k).filter (fun i => L.testBit i)) ∧ (∀ a, a ≠ 119 → a ≠ 144 → c a = M a) ∧ (∀ k, k ≠ 45 → c 119 k = M 119 k)) (fun c => c 119 45 = nI (bitsL L).length ∧ Ord c 144 (bitsL L) ∧ (∀ a, a ≠ 119 → a ≠ 144 → c a = M a) ∧ (∀ k, k ≠ 45 → c 119 k = M 119 k)) np
    (fun c hc => ⟨c, fun f => by show l10_lasts_71 _ (f + 1) _ _ = _; rw [l10_lasts_71, hc.2.2.2 6 (by decide), e6, if_pos (by rw [i32_le]; omega)], by rw [eb] at hc; exact hc⟩)
    (fun k c hk ⟨h1, h2, h3, h4⟩ => by
      have n1 : ¬ nI np ≤ nI k := nI_ge hk (by omega)
      rw [bits_s]
      by_cases z : L.testBit k = true
      · rw [if_pos z]
        have lt : ((List.range k).filter (fun i => L.testBit i)).length + 1 ≤ 5 := by
          have := bits_len L (k + 1) (np - (k + 1))
          rw [show k + 1 + (np - (k + 1)) = np by omega, eb, bits_s, if_pos z, List.length_append] at this
          have : ((List.range k).filter (fun i => L.testBit i)).length + 1 ≤ (bitsL L).length := this
          omega
        refine .inr ⟨mW (mW c 144 ((List.range k).filter (fun i => L.testBit i)).length (nI k)) 119 45 (nI (((List.range k).filter (fun i => L.testBit i)).length + 1)), fun f _ => ?_, ?_, ?_, fun a x y => by rw [mW_ne _ _ _ x, mW_ne _ _ _ y, h3 a x y], fun j hj => by rw [mW_off _ _ hj, mW_ne _ _ _ (by decide), h4 j hj]⟩
        · show l10_lasts_71 _ (f + 1) _ _ = _
          rw [l10_lasts_71, h4 6 (by decide), e6, if_neg n1, has_bt _ (by omega), bt_nI (by omega), if_pos z, if_neg one_n0, h1, mSto_n (by omega) (by decide), Option.bind_some, mW_ne _ _ _ (by decide), h1, nI_1, Option.bind_some, nI_1]
        · rw [mW_at, List.length_append]; rfl
        · refine Ord_app h2 (fun i hi => by rw [mW_ne _ _ _ (by decide), mW_off _ _ (by omega)]) ?_
          rw [mW_ne _ _ _ (by decide), mW_at]
      · rw [if_neg z, List.append_nil]
        refine .inr ⟨c, fun f _ => ?_, h1, h2, h3, h4⟩
        show l10_lasts_71 _ (f + 1) _ _ = _
        rw [l10_lasts_71, h4 6 (by decide), e6, if_neg n1, has_bt _ (by omega), bt_nI (by omega), if_neg z, if_pos rfl, Option.bind_some, nI_1]) np 0 FU M (by omega) (FU_lt (by omega)) ⟨e45, fun i hi => absurd hi (by simp), fun _ _ _ => rfl, fun _ _ => rfl⟩
  exact ⟨M', q1, q2⟩
theorem sumL_app (h : Nat → Nat) : ∀ l l', sumL h (l ++ l') = sumL h l + sumL h l'
  | [], l' => by show sumL h l' = 0 + _; omega
  | x :: l, l' => by
    show h x + sumL h (l ++ l') = h x + sumL h l + sumL h l'
    rw [sumL_app h l l']; omega
theorem sumL_le {h : Nat → Nat} {B : Nat} : ∀ l : List Nat, (∀ x ∈ l, h x ≤ B) → sumL h l ≤ B * l.length
  | [], _ => Nat.le_refl 0
  | x :: l, hh => by
    have := sumL_le l (fun y hy => hh y (List.mem_cons_of_mem _ hy))
    have := hh x (List.mem_cons_self ..)
    show h x + sumL h l ≤ B * (l.length + 1)
    rw [Nat.mul_add]
    omega
theorem sum28 {C : mI} {L b : Nat} {lg : Nat → Nat} (hlg : ∀ q, q < 12 → C 9 q = nI (lg q)) : l5_shortestOf_28 C 35 (nI L) FU (nI b) 0 = some (nI (b + sumL lg (bitsL L))) := by
  obtain ⟨u, q1, q2⟩ := loop1 (fun f k (y : Int32) => l5_shortestOf_28 C 35 (nI L) f y (nI k)) (fun k y => y = nI (b + sumL lg ((List.range k).filter (fun i => L.testBit i)))) (fun y => y = nI (b + sumL lg (bitsL L))) 12
    (fun y hy => ⟨y, fun f => by show l5_shortestOf_28 _ _ _ (f + 1) _ _ = _; rw [l5_shortestOf_28, if_pos (by decide)], hy⟩)
    (fun k y hk hy => by
      rw [bits_s, sumL_app]
      by_cases z : L.testBit k = true
      · rw [if_pos z]
        refine .inr ⟨nI (b + (sumL lg ((List.range k).filter (fun i => L.testBit i)) + sumL lg [k])), fun f _ => ?_, rfl⟩
        show l5_shortestOf_28 _ _ _ (f + 1) _ _ = _
        rw [l5_shortestOf_28, if_neg (show ¬ (12 : Int32) ≤ nI k from nI_ge (b := 12) hk (by decide)), bit1 _ (by omega), bt_nI (by omega), if_pos z, if_neg one_n0, mLd_n hk (by decide), Option.bind_some, Option.bind_some, hlg k hk, hy, nI_add, nI_1]
        have : sumL lg [k] = lg k := by show lg k + 0 = _; omega
        rw [this, Nat.add_assoc]
      · rw [if_neg z]
        refine .inr ⟨y, fun f _ => ?_, by rw [hy]; rfl⟩
        show l5_shortestOf_28 _ _ _ (f + 1) _ _ = _
        rw [l5_shortestOf_28, if_neg (show ¬ (12 : Int32) ≤ nI k from nI_ge (b := 12) hk (by decide)), bit1 _ (by omega), bt_nI (by omega), if_neg z, if_pos rfl, Option.bind_some, nI_1]) 12 0 FU (nI b) (by omega) (FU_lt (by omega)) rfl
  rw [← q2]
  exact q1
theorem bc_len2 : ∀ a, a < 64 → ∀ b, b < 64 → rJ6_bitCount (nI (64 * a + b)) = nI (bitsL (64 * a + b)).length := by decide +kernel
theorem bc_len {n : Nat} (h : n < 4096) : rJ6_bitCount (nI n) = nI (bitsL n).length := by
  have := bc_len2 (n / 64) (by omega) (n % 64) (by omega)
  rw [show 64 * (n / 64) + n % 64 = n by omega] at this
  exact this
theorem lex_facts : ∀ m, m < 6 → 1 ≤ m → (lexp m (List.range m)).length ≤ 120 ∧ (lexp m (List.range m)).isEmpty = false ∧ (lexp m (List.range m)).headD [] = List.range m := by decide +kernel

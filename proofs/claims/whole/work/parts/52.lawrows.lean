/-! FOR THE LAW: the script's ints; the stage pointer; another way to write the references -/
def mScr (X : Nat × (Nat → Int32)) (i : Int32) : Option Int32 := if i < 0 ∨ X.1 ≤ i.toNatClampNeg then none else some (X.2 i.toNatClampNeg)
def mStO (s : Nat) : Option Unit := if s = 3 ∨ s = 35 then some () else none
theorem mStO_ok {s : Nat} {u : Unit} (h : mStO s = some u) : mStg s := by
  unfold mStO at h
  split at h
  · rename_i h1
    rcases h1 with rfl | rfl
    · exact mStg_3
    · exact mStg_35
  · cases h
theorem mV_slO {X : Nat × (Nat → Int32)} {j : mMeth} {d bc bs pc q : Nat} {L st : List Value} {n : Nat} {K : mK} {I : mI} {P : mP} {Q : mQ} {i v : Int32} (hd : mD j pc .iaload 1 q) (hv : mScr X i = some v) (kk : mV X j d bc bs q L (.int v :: st) n K I P Q) : mV X j d bc bs pc L (.int i :: .retAddr 2 :: st) n K I P Q := by
  unfold mScr at hv
  split at hv
  · cases hv
  · rename_i h
    cases hv
    exact mV_sload hd h kk
theorem mE_cg (b : Nat) (cI cS : ClassId) (k : Nat × Nat) (i : Nat → Int32) (p p' : Nat → Option Nat) (h : k.1 = 0 ∨ (2 ≤ k.1 ∧ ∀ f, f < k.2 → p f = p' f) ∨ p = p') : mE b cI cS k i p = mE b cI cS k i p' := by
  rcases h with h | ⟨h, h2⟩ | h
  · obtain ⟨t, n⟩ := k
    have h : t = 0 := h
    subst h
    rfl
  · obtain ⟨t, n⟩ := k
    obtain ⟨c, rfl⟩ : ∃ c, t = c + 2 := ⟨t - 2, by have : 2 ≤ t := h; omega⟩
    show (Sum.inr (c, mFs b c n i p) : va_E) = .inr (c, mFs b c n i p')
    have e : mFs b c n i p = mFs b c n i p' := by
      unfold mFs
      apply List.map_congr_left
      intro f hf
      rw [h2 f (List.mem_range.mp hf)]
    rw [e]
  · rw [h]
theorem mV_cgP {X : Nat × (Nat → Int32)} {j : mMeth} {d bc bs pc : Nat} {L st : List Value} {n : Nat} {K : mK} {I : mI} {P P' : mP} {Q : mQ} (h : ∀ k, k < n → (K k).1 = 0 ∨ (2 ≤ (K k).1 ∧ ∀ f, f < (K k).2 → P k f = P' k f) ∨ P k = P' k) (kk : mV X j d bc bs pc L st n K I P' Q) : mV X j d bc bs pc L st n K I P Q := by
  intro b D cI cS aK aV p l e R s m args below meth c H locs cells slots Tc Ts ls hC hR hS hL t1 t2 t3 t4
  refine kk b D cI cS aK aV p l e R s m args below meth c H locs cells slots Tc Ts ls hC ⟨?_, hR.2⟩ hS hL t1 t2 t3 t4
  have e1 : mws b cI cS n K I P = mws b cI cS n K I P' := by
    unfold mws
    apply List.map_congr_left
    intro k hk
    rw [mE_cg b cI cS (K k) (I k) (P k) (P' k) (h k (List.mem_range.mp hk))]
  rw [← e1]
  exact hR.1
theorem mFold_none2 (a j : Nat) : ∀ (l : List (Nat × Nat × Nat)) (P : mP), (∀ q ∈ l, q.1 = a → q.2.1 ≠ j) → (l.foldl (fun P q => mW P q.1 q.2.1 (some q.2.2)) P) a j = P a j
  | [], P, _ => rfl
  | q :: l, P, h => by
    rw [List.foldl_cons, mFold_none2 a j l _ (fun q hq => h q (List.mem_cons_of_mem _ hq))]
    have h1 := h q List.mem_cons_self
    unfold mW mU
    by_cases e : a = q.1
    · rw [if_pos e]
      rw [if_neg (fun e2 => h1 e.symm e2.symm), e]
    · rw [if_neg e]
theorem PQ_78 : PQ 155 78 = PP 3 78 := by
  funext j
  by_cases hj : j < 6
  · have : ∀ j, j < 6 → PQ 155 78 j = PP 3 78 j := by decide +kernel
    exact this j hj
  · have h1 : PQ 155 78 j = none := by
      unfold PQ
      rw [mFold_none2 78 j _ _ ?_]
      have h2 : ∀ q ∈ evP.take 155, q.1 = 78 → q.2.1 < 6 := by decide +kernel
      intro q hq e1 e2
      have := h2 q hq e1
      omega
    rw [h1]
    unfold PP
    rw [if_neg (fun q => absurd q.1 (by decide))]
    symm
    have h3 : (mPl.getD 78 []).length = 6 := by decide +kernel
    rw [List.getD_eq_getElem?_getD, List.getElem?_eq_none (by omega)]
    rfl
theorem PQ_PP : ∀ k, k < 155 → (KK k).1 = 0 ∨ (2 ≤ (KK k).1 ∧ ∀ f, f < (KK k).2 → PQ 155 k f = PP 3 k f) ∨ PQ 155 k = PP 3 k := by
  have h : ∀ k, k < 155 → (KK k).1 = 0 ∨ (2 ≤ (KK k).1 ∧ ∀ f, f < (KK k).2 → PQ 155 k f = PP 3 k f) ∨ k = 78 := by decide +kernel
  intro k hk
  rcases h k hk with h | h | h
  · exact Or.inl h
  · exact Or.inr (Or.inl h)
  · subst h
    exact Or.inr (Or.inr PQ_78)

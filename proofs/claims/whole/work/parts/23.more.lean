/-! lookupswitch; the stages of the past; a static method of a class whose name isn't plain -/
theorem mLookOff {ps : List (Int × Int)} {df : Int} {x : Int32} : ∀ (cs : List Int32), ps.map (·.1) = cs.map Int32.toInt → (∀ c ∈ cs, ¬ x = c) → Op.lookupswitch.offset ps df x.toInt = df := by
  induction ps with
  | nil => intro cs _ _; rfl
  | cons p ps ih =>
    intro cs h1 h2
    cases cs with
    | nil => simp at h1
    | cons c cs =>
      obtain ⟨a, o⟩ := p
      simp only [List.map_cons, List.cons.injEq] at h1
      rw [Op.lookupswitch.offset_cons, if_neg, ih cs h1.2 (fun c hc => h2 c (List.mem_cons_of_mem _ hc))]
      intro e
      exact h2 c List.mem_cons_self (Int32.toInt_inj.mp (by rw [← e]; exact h1.1))
def mLdP (i : Int32) : Option Nat := if i < 0 ∨ 6 ≤ i.toNatClampNeg then none else some (79 + 5 * i.toNatClampNeg)
theorem mPast : ∀ k, k < 6 → ((79 + 5 * k + 5 ≤ NN ∧ KK (79 + 5 * k) = (9, 13) ∧ KK (79 + 5 * k + 1) = (0, 12) ∧ KK (79 + 5 * k + 2) = (0, 12) ∧ KK (79 + 5 * k + 3) = (0, 6) ∧ KK (79 + 5 * k + 4) = (0, 8)) ∧ (mPl.getD (79 + 5 * k) []).getD 0 none = some (79 + 5 * k + 1) ∧ (mPl.getD (79 + 5 * k) []).getD 1 none = some (79 + 5 * k + 2) ∧ (mPl.getD (79 + 5 * k) []).getD 2 none = some (79 + 5 * k + 3) ∧ (mPl.getD (79 + 5 * k) []).getD 3 none = some (79 + 5 * k + 4) ∧ 79 + 5 * k ≠ 1) ∧ (mPl.getD 78 []).getD k none = some (79 + 5 * k) := by decide +kernel
theorem mLdP_stg {i : Int32} {r : Nat} (h : mLdP i = some r) : mStg r := by
  unfold mLdP at h
  split at h
  · cases h
  · cases h
    exact (mPast _ (by omega)).1
section MVO2
variable {X : Nat × (Nat → Int32)} {j y : mMeth} {d bc bs pc q a r t na : Nat} {L as st rest : List Value} {n : Nat} {K : mK} {I I1 : mI} {P P1 : mP} {Q Qc : mQ} {x i v : Int32}
theorem mV_lookEq {df : Int} {ps : Array (Int × Int)} {len : Nat} {off : Int} (hd : mD j pc (.lookupswitch df ps) len q) (hp : (ps.toList.zip (ps.toList.drop 1)).all (fun (a, next) => a.1 < next.1) = true) (hx : x = v) (ho : Op.lookupswitch.offset ps.toList df v.toInt = off) (ht : (pc : Int) + off = (t : Int)) (k : mV X j d bc bs t L st n K I P Q) : mV X j d bc bs pc L (.int x :: st) n K I P Q := by
  subst hx
  exact mV_look hd.1 hp ho ht k
theorem mV_lookNo {df : Int} {ps : Array (Int × Int)} {len : Nat} (hd : mD j pc (.lookupswitch df ps) len q) (hp : (ps.toList.zip (ps.toList.drop 1)).all (fun (a, next) => a.1 < next.1) = true) (cs : List Int32) (hcs : ps.toList.map (·.1) = cs.map Int32.toInt) (h : ∀ c ∈ cs, ¬ x = c) (ht : (pc : Int) + df = (t : Int)) (k : mV X j d bc bs t L st n K I P Q) : mV X j d bc bs pc L (.int x :: st) n K I P Q :=
  mV_look hd.1 hp (mLookOff cs hcs h) ht k
theorem mV_ldP {s : Nat} (hd : mD j pc .aaload 1 q) (hv : mLdP i = some r) (kk : mV X j d bc bs q L (.ref r :: st) NN KK I (PP s) Q) : mV X j d bc bs pc L (.int i :: .ref 78 :: st) NN KK I (PP s) Q := by
  unfold mLdP at hv
  split at hv
  · cases hv
  · rename_i h
    cases hv
    refine mV_aaload (N := 6) hd (by decide) kk_78 h ?_ kk
    unfold PP
    rw [if_neg (fun q => absurd q.1 (by decide))]
    exact (mPast _ (by omega)).2
theorem mMetF {y : mMeth} {d bc bs : Nat} {as : List Value} {n : Nat} {K : mK} {I : mI} {P : mP} {Q : mQ} (hy : plainFor y.1 = true) (h : mC X y d bc bs as n K I P Q) (l : Launch) (b : Nat) (D : va_G) (cI cS : ClassId) (aK aV : Nat → Nat) :
    Met l y.1 (mWs y) { frames := d, cells := bc, slots := bs, locals := 64 * d } (mPc X b D cI cS aK aV as n K I P) (mQc b aK D cI cS Q) bc bs (fun q => b ≤ q) := by
  refine MetFree.of_bodySF (code := y.2.1) (maxLocals := y.2.2.1) (ret := y.2.2.2) hy ?_ ?_
  · intro args s m h hn
    obtain ⟨meth, c, h1, h2, h3, h4, h5, h6, -, -⟩ := Cond.code_spec hn (atoms_spec (ws := mWs y) h _ List.mem_cons_self)
    exact ⟨meth, c, h1, h2, h3, h4, h5, h6⟩
  · intro p e s m args below meth c s₁ B hml hv _
    obtain ⟨rfl, hE, hR⟩ := hv
    have hts := atoms_spec (ws := mWs y) B.pre
    have hh0 : s₁.heap = s.heap := by rw [B.state]; rfl
    have key : W p l e { frames := d, cells := bc, slots := bs, locals := 64 * d } s m (as.map (mEm b aK)).toArray below meth c s.heap [] 0 0 (MQ below (mQc b aK D cI cS Q) (as.map (mEm b aK)).toArray s bc bs (fun q => b ≤ q)) (entryFrame m (as.map (mEm b aK)).toArray y.2.2.1) := by
      rw [lg_entry_eq]
      have hlv := lv_entry (as.map (mEm b aK)) (n := y.2.2.1) (by rw [mArgs_len]; exact h.1)
      refine h.2 b D cI cS aK aV p l e _ s m _ below meth c s.heap [] 0 0 bc bs _ ⟨B.exec, B.bytes, B.returns, hml, findClass_of_methodNamed B.named, B.notSynchronized, (name_of_methodNamed B.named B.method).1, fun w hw => hts w (List.mem_cons_of_mem _ hw), hE, Nat.le_refl _, Nat.le_refl _⟩ hR va_S.rf ⟨hlv.1, hlv.2.1, fun i v hv hx => ?_⟩ (by omega) (by omega) (Nat.le_refl _) (Nat.le_refl _)
      by_cases hi : i < (mArgs as).length
      · rw [List.getElem?_append_left hi] at hv
        have := hlv.2.2 _ (mArgs_lv b aK as 0 i v hv hx)
        rw [Nat.zero_add] at this
        exact this
      · rw [List.getElem?_append_right (by omega)] at hv
        rw [List.getElem?_replicate] at hv
        split at hv
        · cases hv; exact absurd rfl hx
        · cases hv
    obtain ⟨t, a1, o, b1, b2, b3⟩ := key s₁ hh0 (Stand.of_body B)
    exact ⟨t, o, a1, b1, b2, ⟨b3.1, b3.2⟩⟩
def mTgF (y : mMeth) (na : Nat) : Prop := plainFor y.1 = true ∧ Cond.code y.1 y.2.1 y.2.2.1 y.2.2.2 ∈ mTb ∧ Cond.initialized y.1.cls ∈ mTb ∧ (y.1.cls ≠ "java/lang/invoke/MethodHandle" ∧ y.1.cls ≠ "java/lang/invoke/VarHandle" ∧ (parseMethodDescriptor y.1.desc).map (fun d => d.parameters.length) = some na) ∧ y.2.2.1 ≤ 45 ∧ Cond.static y.1 ∈ mTb
theorem mV_cF {v : Option Value} {sk : List Value} (hd : mSiteS j y pc q) (ht : mTgF y na) (hm : mC X y d 0 0 as n K I P (mRet v n K I1 P1)) (hsk : as.reverse ++ rest = sk) (hna : as.length = na) (hrest : (rest.map fun v => v.category).sum ≤ 8) (kk : mV X j (d + 1) bc bs q L (v.toList ++ rest) n K I1 P1 Q) : mV X j (d + 1) bc bs pc L sk n K I P Q := by
  obtain ⟨idx, ⟨hdg, rfl⟩, hlk⟩ := hd
  subst hsk
  intro b D cI cS aK aV p l e R s m args below meth c H locs cells slots Tc Ts ls hC hR hS hL t1 t2 t3 t4
  obtain ⟨hx, hb, hr, hml, hown, hlocks, hnm, hts, hE, hf1, hf2⟩ := id hC
  have hgood : GoodIn mTb (mWs y) := fun w hw => by
    rcases List.mem_cons.mp hw with rfl | hw
    · exact ⟨ht.2.1, mTb_good ht.2.1⟩
    · exact ⟨hw, mTb_good hw⟩
  have hr := va_runS (As := as.map (mEm b aK)) (rest := rest.map (mEm b aK)) (g := F0 m pc ls ((as.reverse ++ rest).map (mEm b aK))) (cells := cells) (slots := slots) (locs := locs) (H := H) (e := e) (below := below) (meth := meth) (R := R) (index := idx) ⟨hx, hb, hml, hown, hts⟩ (mMetF ht.1 hm l b D cI cS aK aV)
    ⟨callB_of na hts hgood rfl rfl rfl (hts _ ht.2.2.1) (hts _ hlk) ht.2.2.2.1 ⟨hf1, by have := ht.2.2.2.2.1; show 8 + (y.2.2.1 + 11) + 64 * d ≤ R.locals; omega⟩, hts _ ht.2.2.2.2.2⟩ ⟨mPc_blind _ _ _ _ _ _ _ _ _ _ _ _, fun U hU hW => ⟨rfl, hE.go hS hU hW, by rw [hU]; exact hR⟩⟩ rfl (by rw [List.length_map]; exact hna) hL.1 (by show List.map _ _ = _; rw [List.map_append, List.map_reverse]) (mRest hrest) hdg ⟨by omega, by omega⟩
  refine mRunK hr hS fun v' n' K' I' P' H1 locs1 hq hR1 hS1 => ?_
  obtain ⟨rfl, rfl, rfl, rfl, rfl⟩ := hq
  have := kk b D cI cS aK aV p l e R s m args below meth c H1 locs1 (cells + 0) (slots + 0) Tc Ts ls hC hR1 hS1 hL (by omega) (by omega) t3 t4
  cases v' <;> exact this
end MVO2
theorem tg_mJ9_floorMod : mTgF mJ9_floorMod 2 := ⟨by decide +kernel, mTb_in (tin_5 (List.mem_of_getElem? (i := 57) rfl)) rfl, izJ9, ⟨by decide +kernel, by decide +kernel, by decide +kernel⟩, by decide, mTb_in (tin_5 (List.mem_of_getElem? (i := 56) (by decide +kernel))) rfl⟩

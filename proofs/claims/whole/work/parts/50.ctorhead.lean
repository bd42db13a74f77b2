/-! THE CONSTRUCTORS: what is written, in its order -/
def evI : List (Nat × Nat × Int32) := [(3, 4, 0), (3, 5, 0), (3, 6, 10), (3, 7, 0), (3, 8, 0), (3, 9, 0), (3, 10, 0), (3, 11, 0), (3, 12, 0), (8, 6, 0), (8, 7, 0), (15, 2, 0), (15, 3, 0), (18, 2, 0), (18, 3, 0), (21, 2, 0), (21, 3, 0), (24, 2, 0), (24, 3, 0), (29, 0, 1), (29, 1, 1), (29, 2, 1), (29, 3, 1), (29, 4, 1), (29, 5, 1), (29, 6, 1), (29, 7, 1), (27, 5, 0), (27, 6, 0), (35, 4, 0), (35, 5, 0), (35, 6, 10), (35, 7, 0), (35, 8, 0), (35, 9, 0), (35, 10, 0), (35, 11, 0), (35, 12, 0), (1, 3, 1), (1, 8, 0), (45, 4, 0), (45, 5, 0), (45, 6, 10), (45, 7, 0), (45, 8, 0), (45, 9, 0), (45, 10, 0), (45, 11, 0), (45, 12, 0), (50, 6, 0), (50, 7, 0), (57, 2, 0), (57, 3, 0), (60, 2, 0), (60, 3, 0), (63, 2, 0), (63, 3, 0), (66, 2, 0), (66, 3, 0), (71, 0, 1), (71, 1, 1), (71, 2, 1), (71, 3, 1), (71, 4, 1), (71, 5, 1), (71, 6, 1), (71, 7, 1), (69, 5, 0), (69, 6, 0), (0, 3, 0), (77, 1, 0), (77, 2, 0), (79, 4, 0), (79, 5, 0), (79, 6, 10), (79, 7, 0), (79, 8, 0), (79, 9, 0), (79, 10, 0), (79, 11, 0), (79, 12, 0), (84, 4, 0), (84, 5, 0), (84, 6, 10), (84, 7, 0), (84, 8, 0), (84, 9, 0), (84, 10, 0), (84, 11, 0), (84, 12, 0), (89, 4, 0), (89, 5, 0), (89, 6, 10), (89, 7, 0), (89, 8, 0), (89, 9, 0), (89, 10, 0), (89, 11, 0), (89, 12, 0), (94, 4, 0), (94, 5, 0), (94, 6, 10), (94, 7, 0), (94, 8, 0), (94, 9, 0), (94, 10, 0), (94, 11, 0), (94, 12, 0), (99, 4, 0), (99, 5, 0), (99, 6, 10), (99, 7, 0), (99, 8, 0), (99, 9, 0), (99, 10, 0), (99, 11, 0), (99, 12, 0), (104, 4, 0), (104, 5, 0), (104, 6, 10), (104, 7, 0), (104, 8, 0), (104, 9, 0), (104, 10, 0), (104, 11, 0), (104, 12, 0), (109, 1, 0), (109, 5, 0), (109, 6, 0), (109, 7, 0), (109, 8, 0), (109, 9, 0), (114, 2, 0), (114, 3, 0), (109, 11, 0), (109, 12, (-1)), (130, 0, 32), (130, 1, 119), (130, 2, 101), (130, 3, 101), (130, 4, 112), (130, 5, 115), (130, 6, 32), (130, 7, 100), (130, 8, 97), (130, 9, 109), (130, 10, 112), (130, 11, 115), (130, 12, 32), (130, 13, 115), (130, 14, 101), (130, 15, 116), (130, 16, 116), (130, 17, 108), (130, 18, 101), (130, 19, 115), (130, 20, 32), (130, 21, 119), (130, 22, 104), (130, 23, 101), (130, 24, 110), (130, 25, 32), (130, 26, 111), (130, 27, 114), (130, 28, 32), (130, 29, 97), (130, 30, 110), (130, 31, 100), (130, 32, 32), (130, 33, 110), (130, 34, 111), (130, 35, 116), (130, 36, 32), (130, 37, 115), (130, 38, 97), (130, 39, 100), (130, 40, 32), (130, 41, 104), (130, 42, 97), (130, 43, 114), (130, 44, 100), (130, 45, 32), (130, 46, 97), (130, 47, 114), (130, 48, 116), (130, 49, 32), (130, 50, 119), (130, 51, 105), (130, 52, 115), (130, 53, 104), (130, 54, 32), (130, 55, 119), (130, 56, 97), (130, 57, 116), (130, 58, 101), (130, 59, 114), (130, 60, 32), (130, 61, 115), (130, 62, 97), (130, 63, 108), (130, 64, 116), (130, 65, 32), (130, 66, 102), (130, 67, 108), (130, 68, 97), (130, 69, 116), (130, 70, 32), (130, 71, 115), (130, 72, 116), (130, 73, 114), (130, 74, 105), (130, 75, 110), (130, 76, 103), (130, 77, 32), (130, 78, 102), (130, 79, 105), (130, 80, 114), (130, 81, 101), (130, 82, 32), (130, 83, 109), (130, 84, 105), (130, 85, 110), (130, 86, 117), (130, 87, 116), (130, 88, 101), (130, 89, 32), (130, 90, 112), (130, 91, 108), (130, 92, 97), (130, 93, 121), (130, 94, 101), (130, 95, 100), (130, 96, 32), (130, 97, 100), (130, 98, 97), (130, 99, 121), (130, 100, 32), (130, 101, 111), (130, 102, 110), (130, 103, 32), (130, 104, 112), (130, 105, 108), (130, 106, 97), (130, 107, 121), (130, 108, 101), (130, 109, 114), (130, 110, 32), (130, 111, 112), (130, 112, 105), (130, 113, 101), (130, 114, 99), (130, 115, 101), (130, 116, 32), (130, 117, 116), (130, 118, 117), (130, 119, 110), (130, 120, 101), (130, 121, 32), (130, 122, 101), (130, 123, 109), (130, 124, 112), (130, 125, 116), (130, 126, 121), (130, 127, 32), (130, 128, 99), (130, 129, 104), (130, 130, 105), (130, 131, 108), (130, 132, 100), (130, 133, 32), (130, 134, 100), (130, 135, 114), (130, 136, 121), (130, 137, 32), (130, 138, 108), (130, 139, 105), (130, 140, 107), (130, 141, 101), (130, 142, 32), (119, 36, (-1))]
def evP : List (Nat × Nat × Nat) := [(3, 0, 4), (3, 1, 5), (3, 2, 6), (3, 3, 7), (2, 0, 3), (8, 0, 9), (8, 1, 10), (8, 2, 11), (8, 3, 12), (8, 4, 13), (8, 5, 14), (2, 1, 8), (15, 0, 16), (15, 1, 17), (2, 2, 15), (18, 0, 19), (18, 1, 20), (2, 3, 18), (21, 0, 22), (21, 1, 23), (2, 4, 21), (24, 0, 25), (24, 1, 26), (2, 5, 24), (27, 0, 28), (27, 1, 29), (27, 2, 30), (27, 3, 31), (27, 4, 32), (27, 7, 33), (2, 6, 27), (2, 7, 34), (1, 0, 2), (35, 0, 36), (35, 1, 37), (35, 2, 38), (35, 3, 39), (1, 1, 35), (1, 2, 3), (1, 4, 40), (1, 5, 41), (1, 6, 42), (1, 7, 43), (0, 0, 1), (0, 1, 2), (45, 0, 46), (45, 1, 47), (45, 2, 48), (45, 3, 49), (44, 0, 45), (50, 0, 51), (50, 1, 52), (50, 2, 53), (50, 3, 54), (50, 4, 55), (50, 5, 56), (44, 1, 50), (57, 0, 58), (57, 1, 59), (44, 2, 57), (60, 0, 61), (60, 1, 62), (44, 3, 60), (63, 0, 64), (63, 1, 65), (44, 4, 63), (66, 0, 67), (66, 1, 68), (44, 5, 66), (69, 0, 70), (69, 1, 71), (69, 2, 72), (69, 3, 73), (69, 4, 74), (69, 7, 75), (44, 6, 69), (44, 7, 76), (0, 2, 44), (77, 0, 78), (79, 0, 80), (79, 1, 81), (79, 2, 82), (79, 3, 83), (78, 0, 79), (84, 0, 85), (84, 1, 86), (84, 2, 87), (84, 3, 88), (78, 1, 84), (89, 0, 90), (89, 1, 91), (89, 2, 92), (89, 3, 93), (78, 2, 89), (94, 0, 95), (94, 1, 96), (94, 2, 97), (94, 3, 98), (78, 3, 94), (99, 0, 100), (99, 1, 101), (99, 2, 102), (99, 3, 103), (78, 4, 99), (104, 0, 105), (104, 1, 106), (104, 2, 107), (104, 3, 108), (78, 5, 104), (0, 4, 77), (109, 0, 110), (109, 2, 111), (109, 3, 112), (109, 4, 113), (114, 0, 115), (114, 1, 116), (109, 10, 114), (0, 5, 109), (117, 0, 118), (0, 6, 117), (119, 1, 120), (119, 2, 121), (119, 4, 122), (119, 8, 123), (119, 9, 124), (119, 10, 125), (119, 11, 126), (119, 12, 127), (119, 13, 128), (119, 14, 129), (119, 20, 130), (119, 21, 131), (119, 22, 132), (119, 23, 133), (119, 24, 134), (119, 25, 135), (119, 26, 136), (119, 27, 137), (119, 31, 138), (119, 38, 139), (119, 40, 140), (119, 42, 141), (119, 43, 142), (119, 44, 143), (119, 46, 144), (119, 47, 145), (119, 49, 146), (119, 50, 147), (119, 51, 148), (119, 52, 149), (119, 54, 150), (119, 55, 151), (119, 56, 152), (119, 57, 153), (119, 61, 154)]
def IQ (e : Nat) : mI := (evI.take e).foldl (fun I q => mW I q.1 q.2.1 q.2.2) (fun _ _ => 0)
def PQ (e : Nat) : mP := (evP.take e).foldl (fun P q => mW P q.1 q.2.1 (some q.2.2)) (fun _ _ => none)
theorem IQ_succ {e : Nat} {q : Nat × Nat × Int32} (h : evI[e]? = some q) : mW (IQ e) q.1 q.2.1 q.2.2 = IQ (e + 1) := by
  unfold IQ
  rw [List.take_add_one, List.foldl_append, h]
  rfl
theorem PQ_succ {e : Nat} {q : Nat × Nat × Nat} (h : evP[e]? = some q) : mW (PQ e) q.1 q.2.1 (some q.2.2) = PQ (e + 1) := by
  unfold PQ
  rw [List.take_add_one, List.foldl_append, h]
  rfl
theorem mFold_none {α β : Type} (g : α → Nat × Nat × β) (n : Nat) : ∀ (l : List α) (I : Nat → Nat → β), (l.all (fun q => (g q).1 != n)) = true → (l.foldl (fun I q => mW I (g q).1 (g q).2.1 (g q).2.2) I) n = I n
  | [], I, _ => rfl
  | q :: l, I, h => by
    simp only [List.all_cons, Bool.and_eq_true, bne_iff_ne, ne_eq] at h
    rw [List.foldl_cons, mFold_none g n l _ h.2]
    exact mU_ne _ _ (fun e => h.1 e.symm)
theorem IQ_new {e n : Nat} (h : ((evI.take e).all (fun q => q.1 != n)) = true) : mU (IQ e) n (fun _ => 0) = IQ e := by
  have := mFold_none (fun q : Nat × Nat × Int32 => q) n (evI.take e) (fun _ _ => 0) h
  have e1 : IQ e n = fun _ => 0 := this
  rw [← e1, mU_self]
theorem PQ_new {e n : Nat} (h : ((evP.take e).all (fun q => q.1 != n)) = true) : mU (PQ e) n (fun _ => none) = PQ e := by
  have := mFold_none (fun q : Nat × Nat × Nat => (q.1, q.2.1, some q.2.2)) n (evP.take e) (fun _ _ => none) h
  have e1 : PQ e n = fun _ => none := this
  rw [← e1, mU_self]
theorem KK_new {n : Nat} {k : Nat × Nat} (h : KK n = k) : mU KK n k = KK := by rw [← h, mU_self]
section MVX
variable {X : Nat × (Nat → Int32)} {j y : mMeth} {d bc bs bc' bs' pc q ci N k a r n n' e e' e1 : Nat} {L as st rest : List Value} {I I1 : mI} {P P1 : mP} {Q : mQ} {x i : Int32}
theorem mV_newX (hd : mNew j pc ci N q) (hn : n + 1 = n') (hk : KK n = (ci + 2, N)) (hI : ((evI.take e).all (fun q => q.1 != n)) = true) (hP : ((evP.take e').all (fun q => q.1 != n)) = true) (kk : mV X j d bc bs q L (.ref n :: st) n' KK (IQ e) (PQ e') Q) : mV X j d (bc + 1) (bs + N) pc L st n KK (IQ e) (PQ e') Q := by
  subst hn
  refine mV_new hd ?_
  rw [KK_new hk, IQ_new hI, PQ_new hP]
  exact kk
theorem mV_newaX (hd : mD j pc (.newarray .int) 2 q) (hn : n + 1 = n') (hk : KK n = (0, N)) (hx : ¬ x < 0) (hN : x.toNatClampNeg = N) (hb : N ≤ 10000) (hI : ((evI.take e).all (fun q => q.1 != n)) = true) (hP : ((evP.take e').all (fun q => q.1 != n)) = true) (kk : mV X j d bc bs q L (.ref n :: st) n' KK (IQ e) (PQ e') Q) : mV X j d (bc + 1) (bs + N) pc L (.int x :: st) n KK (IQ e) (PQ e') Q := by
  subst hn
  refine mV_newa hd ac_i hx hN hb ?_
  rw [KK_new hk, IQ_new hI, PQ_new hP]
  exact kk
theorem mV_newqX {idx : Nat} (hd : mD j pc (.anewarray idx) 3 q) (hl : Cond.classLink j.1.cls idx "WeepingPiano$Stage" ∈ mTb) (hn : n + 1 = n') (hk : KK n = (1, N)) (hx : ¬ x < 0) (hN : x.toNatClampNeg = N) (hb : N ≤ 10000) (hI : ((evI.take e).all (fun q => q.1 != n)) = true) (hP : ((evP.take e').all (fun q => q.1 != n)) = true) (kk : mV X j d bc bs q L (.ref n :: st) n' KK (IQ e) (PQ e') Q) : mV X j d (bc + 1) (bs + N) pc L (.int x :: st) n KK (IQ e) (PQ e') Q := by
  subst hn
  refine mV_newq hd hl hx hN hb ?_
  rw [KK_new hk, IQ_new hI, PQ_new hP]
  exact kk
theorem mV_putIX (hd : mPut j pc ci N k q) (ha : a < n) (hk : KK a = (ci + 2, N)) (hr : mRf ci k = false) (hn : narrow (mY ci k) (.int x) = .int x) (he : evI[e]? = some (a, k, x)) (kk : mV X j d bc bs q L st n KK (IQ (e + 1)) P Q) : mV X j d bc bs pc L (.int x :: .ref a :: st) n KK (IQ e) P Q := by
  refine mV_putI hd ha hk hr hn ?_
  rw [IQ_succ he]
  exact kk
theorem mV_putPX (hd : mPut j pc ci N k q) (ha : a < n) (hk : KK a = (ci + 2, N)) (hr : mRf ci k = true) (he : evP[e]? = some (a, k, r)) (kk : mV X j d bc bs q L st n KK I (PQ (e + 1)) Q) : mV X j d bc bs pc L (.ref r :: .ref a :: st) n KK I (PQ e) Q := by
  refine mV_putP hd ha hk hr ?_
  rw [PQ_succ he]
  exact kk
theorem mV_stoX (hd : mD j pc .iastore 1 q) (ha : a < n) (hk : KK a = (0, N)) (hin : mIx i k N) (he : evI[e]? = some (a, k, x)) (kk : mV X j d bc bs q L st n KK (IQ (e + 1)) P Q) : mV X j d bc bs pc L (.int x :: .int i :: .ref a :: st) n KK (IQ e) P Q := by
  refine mV_sto k hd ha hk hin ?_
  rw [IQ_succ he]
  exact kk
theorem mV_astX {o : Nat} (hd : mD j pc .aastore 1 q) (ha : a < n) (hk : KK a = (1, N)) (ho : o < n) (hko : KK o = (9, 13)) (hin : mIx i k N) (he : evP[e]? = some (a, k, o)) (kk : mV X j d bc bs q L st n KK I (PQ (e + 1)) Q) : mV X j d bc bs pc L (.ref o :: .int i :: .ref a :: st) n KK I (PQ e) Q := by
  obtain ⟨-, rfl, -⟩ := id hin
  refine mV_aastore hd ha hk ho hko (mIx_in hin) ?_
  rw [PQ_succ he]
  exact kk
theorem mV_ci {mc ms na n1 : Nat} {K1 : mK} {sk : List Value} {v : Option Value} {K : mK} (hd : ∃ idx : Nat, mD j pc (.invokespecial idx) 3 q ∧ Cond.methodLink j.1.cls idx y.1 ∈ mTb) (ht : mTgI y na) (hm : mC X y d mc ms (.ref a :: as) n K I P (mRet v n1 K1 I1 P1)) (hsk : as.reverse ++ .ref a :: rest = sk) (hna : as.length = na) (hrest : (rest.map fun v => v.category).sum ≤ 8) (hbc : mc + bc' = bc) (hbs : ms + bs' = bs)
    (kk : mV X j (d + 1) bc' bs' q L (v.toList ++ rest) n1 K1 I1 P1 Q) : mV X j (d + 1) bc bs pc L sk n K I P Q := by
  obtain ⟨idx, ⟨h1, h2⟩, h3⟩ := hd
  subst hsk; subst hbc; subst hbs
  refine mV_callI h1 h2 h3 ht hna hrest (Nat.le_add_right _ _) (Nat.le_add_right _ _) hm ?_
  rintro v' n' K' I' P' ⟨rfl, rfl, rfl, rfl, rfl⟩
  rw [Nat.add_sub_cancel_left, Nat.add_sub_cancel_left]
  exact kk
theorem mV_cin {mc ms na n1 idx : Nat} {K1 : mK} {sk : List Value} {v : Option Value} {K : mK} {host : String} (hd : mD j pc (.invokespecial idx) 3 q) (hl : (j.1.cls, idx, y.1, host) ∈ mNw) (ht : mTgI y na) (hm : mC X y d mc ms (.ref a :: as) n K I P (mRet v n1 K1 I1 P1)) (hsk : as.reverse ++ .ref a :: rest = sk) (hna : as.length = na) (hrest : (rest.map fun v => v.category).sum ≤ 8) (hbc : mc + bc' = bc) (hbs : ms + bs' = bs)
    (kk : mV X j (d + 1) bc' bs' q L (v.toList ++ rest) n1 K1 I1 P1 Q) : mV X j (d + 1) bc bs pc L sk n K I P Q := by
  obtain ⟨h1, h2⟩ := hd
  subst hsk; subst hbc; subst hbs
  refine mV_callIN h1 h2 hl ht hna hrest (Nat.le_add_right _ _) (Nat.le_add_right _ _) hm ?_
  rintro v' n' K' I' P' ⟨rfl, rfl, rfl, rfl, rfl⟩
  rw [Nat.add_sub_cancel_left, Nat.add_sub_cancel_left]
  exact kk
end MVX

theorem evI_0 : evI[0]? = some (3, 4, (0 : Int32)) := by decide +kernel
theorem evI_1 : evI[1]? = some (3, 5, (0 : Int32)) := by decide +kernel
theorem evI_2 : evI[2]? = some (3, 6, (10 : Int32)) := by decide +kernel
theorem evI_3 : evI[3]? = some (3, 7, (0 : Int32)) := by decide +kernel
theorem evI_4 : evI[4]? = some (3, 8, (0 : Int32)) := by decide +kernel
theorem evI_5 : evI[5]? = some (3, 9, (0 : Int32)) := by decide +kernel
theorem evI_6 : evI[6]? = some (3, 10, (0 : Int32)) := by decide +kernel
theorem evI_7 : evI[7]? = some (3, 11, (0 : Int32)) := by decide +kernel
theorem evI_8 : evI[8]? = some (3, 12, (0 : Int32)) := by decide +kernel
theorem evI_9 : evI[9]? = some (8, 6, (0 : Int32)) := by decide +kernel
theorem evI_10 : evI[10]? = some (8, 7, (0 : Int32)) := by decide +kernel
theorem evI_11 : evI[11]? = some (15, 2, (0 : Int32)) := by decide +kernel
theorem evI_12 : evI[12]? = some (15, 3, (0 : Int32)) := by decide +kernel
theorem evI_13 : evI[13]? = some (18, 2, (0 : Int32)) := by decide +kernel
theorem evI_14 : evI[14]? = some (18, 3, (0 : Int32)) := by decide +kernel
theorem evI_15 : evI[15]? = some (21, 2, (0 : Int32)) := by decide +kernel
theorem evI_16 : evI[16]? = some (21, 3, (0 : Int32)) := by decide +kernel
theorem evI_17 : evI[17]? = some (24, 2, (0 : Int32)) := by decide +kernel
theorem evI_18 : evI[18]? = some (24, 3, (0 : Int32)) := by decide +kernel
theorem evI_19 : evI[19]? = some (29, 0, (1 : Int32)) := by decide +kernel
theorem evI_20 : evI[20]? = some (29, 1, (1 : Int32)) := by decide +kernel
theorem evI_21 : evI[21]? = some (29, 2, (1 : Int32)) := by decide +kernel
theorem evI_22 : evI[22]? = some (29, 3, (1 : Int32)) := by decide +kernel
theorem evI_23 : evI[23]? = some (29, 4, (1 : Int32)) := by decide +kernel
theorem evI_24 : evI[24]? = some (29, 5, (1 : Int32)) := by decide +kernel
theorem evI_25 : evI[25]? = some (29, 6, (1 : Int32)) := by decide +kernel
theorem evI_26 : evI[26]? = some (29, 7, (1 : Int32)) := by decide +kernel
theorem evI_27 : evI[27]? = some (27, 5, (0 : Int32)) := by decide +kernel
theorem evI_28 : evI[28]? = some (27, 6, (0 : Int32)) := by decide +kernel
theorem evI_29 : evI[29]? = some (35, 4, (0 : Int32)) := by decide +kernel
theorem evI_30 : evI[30]? = some (35, 5, (0 : Int32)) := by decide +kernel
theorem evI_31 : evI[31]? = some (35, 6, (10 : Int32)) := by decide +kernel
theorem evI_32 : evI[32]? = some (35, 7, (0 : Int32)) := by decide +kernel
theorem evI_33 : evI[33]? = some (35, 8, (0 : Int32)) := by decide +kernel
theorem evI_34 : evI[34]? = some (35, 9, (0 : Int32)) := by decide +kernel
theorem evI_35 : evI[35]? = some (35, 10, (0 : Int32)) := by decide +kernel
theorem evI_36 : evI[36]? = some (35, 11, (0 : Int32)) := by decide +kernel
theorem evI_37 : evI[37]? = some (35, 12, (0 : Int32)) := by decide +kernel
theorem evI_38 : evI[38]? = some (1, 3, (1 : Int32)) := by decide +kernel
theorem evI_39 : evI[39]? = some (1, 8, (0 : Int32)) := by decide +kernel
theorem evI_40 : evI[40]? = some (45, 4, (0 : Int32)) := by decide +kernel
theorem evI_41 : evI[41]? = some (45, 5, (0 : Int32)) := by decide +kernel
theorem evI_42 : evI[42]? = some (45, 6, (10 : Int32)) := by decide +kernel
theorem evI_43 : evI[43]? = some (45, 7, (0 : Int32)) := by decide +kernel
theorem evI_44 : evI[44]? = some (45, 8, (0 : Int32)) := by decide +kernel
theorem evI_45 : evI[45]? = some (45, 9, (0 : Int32)) := by decide +kernel
theorem evI_46 : evI[46]? = some (45, 10, (0 : Int32)) := by decide +kernel
theorem evI_47 : evI[47]? = some (45, 11, (0 : Int32)) := by decide +kernel
theorem evI_48 : evI[48]? = some (45, 12, (0 : Int32)) := by decide +kernel
theorem evI_49 : evI[49]? = some (50, 6, (0 : Int32)) := by decide +kernel
theorem evI_50 : evI[50]? = some (50, 7, (0 : Int32)) := by decide +kernel
theorem evI_51 : evI[51]? = some (57, 2, (0 : Int32)) := by decide +kernel
theorem evI_52 : evI[52]? = some (57, 3, (0 : Int32)) := by decide +kernel
theorem evI_53 : evI[53]? = some (60, 2, (0 : Int32)) := by decide +kernel
theorem evI_54 : evI[54]? = some (60, 3, (0 : Int32)) := by decide +kernel
theorem evI_55 : evI[55]? = some (63, 2, (0 : Int32)) := by decide +kernel
theorem evI_56 : evI[56]? = some (63, 3, (0 : Int32)) := by decide +kernel
theorem evI_57 : evI[57]? = some (66, 2, (0 : Int32)) := by decide +kernel
theorem evI_58 : evI[58]? = some (66, 3, (0 : Int32)) := by decide +kernel
theorem evI_59 : evI[59]? = some (71, 0, (1 : Int32)) := by decide +kernel
theorem evI_60 : evI[60]? = some (71, 1, (1 : Int32)) := by decide +kernel
theorem evI_61 : evI[61]? = some (71, 2, (1 : Int32)) := by decide +kernel
theorem evI_62 : evI[62]? = some (71, 3, (1 : Int32)) := by decide +kernel
theorem evI_63 : evI[63]? = some (71, 4, (1 : Int32)) := by decide +kernel
theorem evI_64 : evI[64]? = some (71, 5, (1 : Int32)) := by decide +kernel
theorem evI_65 : evI[65]? = some (71, 6, (1 : Int32)) := by decide +kernel
theorem evI_66 : evI[66]? = some (71, 7, (1 : Int32)) := by decide +kernel
theorem evI_67 : evI[67]? = some (69, 5, (0 : Int32)) := by decide +kernel
theorem evI_68 : evI[68]? = some (69, 6, (0 : Int32)) := by decide +kernel
theorem evI_69 : evI[69]? = some (0, 3, (0 : Int32)) := by decide +kernel
theorem evI_70 : evI[70]? = some (77, 1, (0 : Int32)) := by decide +kernel
theorem evI_71 : evI[71]? = some (77, 2, (0 : Int32)) := by decide +kernel
theorem evI_72 : evI[72]? = some (79, 4, (0 : Int32)) := by decide +kernel
theorem evI_73 : evI[73]? = some (79, 5, (0 : Int32)) := by decide +kernel
theorem evI_74 : evI[74]? = some (79, 6, (10 : Int32)) := by decide +kernel
theorem evI_75 : evI[75]? = some (79, 7, (0 : Int32)) := by decide +kernel
theorem evI_76 : evI[76]? = some (79, 8, (0 : Int32)) := by decide +kernel
theorem evI_77 : evI[77]? = some (79, 9, (0 : Int32)) := by decide +kernel
theorem evI_78 : evI[78]? = some (79, 10, (0 : Int32)) := by decide +kernel
theorem evI_79 : evI[79]? = some (79, 11, (0 : Int32)) := by decide +kernel
theorem evI_80 : evI[80]? = some (79, 12, (0 : Int32)) := by decide +kernel
theorem evI_81 : evI[81]? = some (84, 4, (0 : Int32)) := by decide +kernel
theorem evI_82 : evI[82]? = some (84, 5, (0 : Int32)) := by decide +kernel
theorem evI_83 : evI[83]? = some (84, 6, (10 : Int32)) := by decide +kernel
theorem evI_84 : evI[84]? = some (84, 7, (0 : Int32)) := by decide +kernel
theorem evI_85 : evI[85]? = some (84, 8, (0 : Int32)) := by decide +kernel
theorem evI_86 : evI[86]? = some (84, 9, (0 : Int32)) := by decide +kernel
theorem evI_87 : evI[87]? = some (84, 10, (0 : Int32)) := by decide +kernel
theorem evI_88 : evI[88]? = some (84, 11, (0 : Int32)) := by decide +kernel
theorem evI_89 : evI[89]? = some (84, 12, (0 : Int32)) := by decide +kernel
theorem evI_90 : evI[90]? = some (89, 4, (0 : Int32)) := by decide +kernel
theorem evI_91 : evI[91]? = some (89, 5, (0 : Int32)) := by decide +kernel
theorem evI_92 : evI[92]? = some (89, 6, (10 : Int32)) := by decide +kernel
theorem evI_93 : evI[93]? = some (89, 7, (0 : Int32)) := by decide +kernel
theorem evI_94 : evI[94]? = some (89, 8, (0 : Int32)) := by decide +kernel
theorem evI_95 : evI[95]? = some (89, 9, (0 : Int32)) := by decide +kernel
theorem evI_96 : evI[96]? = some (89, 10, (0 : Int32)) := by decide +kernel
theorem evI_97 : evI[97]? = some (89, 11, (0 : Int32)) := by decide +kernel
theorem evI_98 : evI[98]? = some (89, 12, (0 : Int32)) := by decide +kernel
theorem evI_99 : evI[99]? = some (94, 4, (0 : Int32)) := by decide +kernel
theorem evI_100 : evI[100]? = some (94, 5, (0 : Int32)) := by decide +kernel
theorem evI_101 : evI[101]? = some (94, 6, (10 : Int32)) := by decide +kernel
theorem evI_102 : evI[102]? = some (94, 7, (0 : Int32)) := by decide +kernel
theorem evI_103 : evI[103]? = some (94, 8, (0 : Int32)) := by decide +kernel
theorem evI_104 : evI[104]? = some (94, 9, (0 : Int32)) := by decide +kernel
theorem evI_105 : evI[105]? = some (94, 10, (0 : Int32)) := by decide +kernel
theorem evI_106 : evI[106]? = some (94, 11, (0 : Int32)) := by decide +kernel
theorem evI_107 : evI[107]? = some (94, 12, (0 : Int32)) := by decide +kernel
theorem evI_108 : evI[108]? = some (99, 4, (0 : Int32)) := by decide +kernel
theorem evI_109 : evI[109]? = some (99, 5, (0 : Int32)) := by decide +kernel
theorem evI_110 : evI[110]? = some (99, 6, (10 : Int32)) := by decide +kernel
theorem evI_111 : evI[111]? = some (99, 7, (0 : Int32)) := by decide +kernel
theorem evI_112 : evI[112]? = some (99, 8, (0 : Int32)) := by decide +kernel
theorem evI_113 : evI[113]? = some (99, 9, (0 : Int32)) := by decide +kernel
theorem evI_114 : evI[114]? = some (99, 10, (0 : Int32)) := by decide +kernel
theorem evI_115 : evI[115]? = some (99, 11, (0 : Int32)) := by decide +kernel
theorem evI_116 : evI[116]? = some (99, 12, (0 : Int32)) := by decide +kernel
theorem evI_117 : evI[117]? = some (104, 4, (0 : Int32)) := by decide +kernel
theorem evI_118 : evI[118]? = some (104, 5, (0 : Int32)) := by decide +kernel
theorem evI_119 : evI[119]? = some (104, 6, (10 : Int32)) := by decide +kernel
theorem evI_120 : evI[120]? = some (104, 7, (0 : Int32)) := by decide +kernel
theorem evI_121 : evI[121]? = some (104, 8, (0 : Int32)) := by decide +kernel
theorem evI_122 : evI[122]? = some (104, 9, (0 : Int32)) := by decide +kernel
theorem evI_123 : evI[123]? = some (104, 10, (0 : Int32)) := by decide +kernel
theorem evI_124 : evI[124]? = some (104, 11, (0 : Int32)) := by decide +kernel
theorem evI_125 : evI[125]? = some (104, 12, (0 : Int32)) := by decide +kernel
theorem evI_126 : evI[126]? = some (109, 1, (0 : Int32)) := by decide +kernel
theorem evI_127 : evI[127]? = some (109, 5, (0 : Int32)) := by decide +kernel
theorem evI_128 : evI[128]? = some (109, 6, (0 : Int32)) := by decide +kernel
theorem evI_129 : evI[129]? = some (109, 7, (0 : Int32)) := by decide +kernel
theorem evI_130 : evI[130]? = some (109, 8, (0 : Int32)) := by decide +kernel
theorem evI_131 : evI[131]? = some (109, 9, (0 : Int32)) := by decide +kernel
theorem evI_132 : evI[132]? = some (114, 2, (0 : Int32)) := by decide +kernel
theorem evI_133 : evI[133]? = some (114, 3, (0 : Int32)) := by decide +kernel
theorem evI_134 : evI[134]? = some (109, 11, (0 : Int32)) := by decide +kernel
theorem evI_135 : evI[135]? = some (109, 12, ((-1) : Int32)) := by decide +kernel
theorem evI_136 : evI[136]? = some (130, 0, (32 : Int32)) := by decide +kernel
theorem evI_137 : evI[137]? = some (130, 1, (119 : Int32)) := by decide +kernel
theorem evI_138 : evI[138]? = some (130, 2, (101 : Int32)) := by decide +kernel
theorem evI_139 : evI[139]? = some (130, 3, (101 : Int32)) := by decide +kernel
theorem evI_140 : evI[140]? = some (130, 4, (112 : Int32)) := by decide +kernel
theorem evI_141 : evI[141]? = some (130, 5, (115 : Int32)) := by decide +kernel
theorem evI_142 : evI[142]? = some (130, 6, (32 : Int32)) := by decide +kernel
theorem evI_143 : evI[143]? = some (130, 7, (100 : Int32)) := by decide +kernel
theorem evI_144 : evI[144]? = some (130, 8, (97 : Int32)) := by decide +kernel
theorem evI_145 : evI[145]? = some (130, 9, (109 : Int32)) := by decide +kernel
theorem evI_146 : evI[146]? = some (130, 10, (112 : Int32)) := by decide +kernel
theorem evI_147 : evI[147]? = some (130, 11, (115 : Int32)) := by decide +kernel
theorem evI_148 : evI[148]? = some (130, 12, (32 : Int32)) := by decide +kernel
theorem evI_149 : evI[149]? = some (130, 13, (115 : Int32)) := by decide +kernel
theorem evI_150 : evI[150]? = some (130, 14, (101 : Int32)) := by decide +kernel
theorem evI_151 : evI[151]? = some (130, 15, (116 : Int32)) := by decide +kernel
theorem evI_152 : evI[152]? = some (130, 16, (116 : Int32)) := by decide +kernel
theorem evI_153 : evI[153]? = some (130, 17, (108 : Int32)) := by decide +kernel
theorem evI_154 : evI[154]? = some (130, 18, (101 : Int32)) := by decide +kernel
theorem evI_155 : evI[155]? = some (130, 19, (115 : Int32)) := by decide +kernel
theorem evI_156 : evI[156]? = some (130, 20, (32 : Int32)) := by decide +kernel
theorem evI_157 : evI[157]? = some (130, 21, (119 : Int32)) := by decide +kernel
theorem evI_158 : evI[158]? = some (130, 22, (104 : Int32)) := by decide +kernel
theorem evI_159 : evI[159]? = some (130, 23, (101 : Int32)) := by decide +kernel
theorem evI_160 : evI[160]? = some (130, 24, (110 : Int32)) := by decide +kernel
theorem evI_161 : evI[161]? = some (130, 25, (32 : Int32)) := by decide +kernel
theorem evI_162 : evI[162]? = some (130, 26, (111 : Int32)) := by decide +kernel
theorem evI_163 : evI[163]? = some (130, 27, (114 : Int32)) := by decide +kernel
theorem evI_164 : evI[164]? = some (130, 28, (32 : Int32)) := by decide +kernel
theorem evI_165 : evI[165]? = some (130, 29, (97 : Int32)) := by decide +kernel
theorem evI_166 : evI[166]? = some (130, 30, (110 : Int32)) := by decide +kernel
theorem evI_167 : evI[167]? = some (130, 31, (100 : Int32)) := by decide +kernel
theorem evI_168 : evI[168]? = some (130, 32, (32 : Int32)) := by decide +kernel
theorem evI_169 : evI[169]? = some (130, 33, (110 : Int32)) := by decide +kernel
theorem evI_170 : evI[170]? = some (130, 34, (111 : Int32)) := by decide +kernel
theorem evI_171 : evI[171]? = some (130, 35, (116 : Int32)) := by decide +kernel
theorem evI_172 : evI[172]? = some (130, 36, (32 : Int32)) := by decide +kernel
theorem evI_173 : evI[173]? = some (130, 37, (115 : Int32)) := by decide +kernel
theorem evI_174 : evI[174]? = some (130, 38, (97 : Int32)) := by decide +kernel
theorem evI_175 : evI[175]? = some (130, 39, (100 : Int32)) := by decide +kernel
theorem evI_176 : evI[176]? = some (130, 40, (32 : Int32)) := by decide +kernel
theorem evI_177 : evI[177]? = some (130, 41, (104 : Int32)) := by decide +kernel
theorem evI_178 : evI[178]? = some (130, 42, (97 : Int32)) := by decide +kernel
theorem evI_179 : evI[179]? = some (130, 43, (114 : Int32)) := by decide +kernel
theorem evI_180 : evI[180]? = some (130, 44, (100 : Int32)) := by decide +kernel
theorem evI_181 : evI[181]? = some (130, 45, (32 : Int32)) := by decide +kernel
theorem evI_182 : evI[182]? = some (130, 46, (97 : Int32)) := by decide +kernel
theorem evI_183 : evI[183]? = some (130, 47, (114 : Int32)) := by decide +kernel
theorem evI_184 : evI[184]? = some (130, 48, (116 : Int32)) := by decide +kernel
theorem evI_185 : evI[185]? = some (130, 49, (32 : Int32)) := by decide +kernel
theorem evI_186 : evI[186]? = some (130, 50, (119 : Int32)) := by decide +kernel
theorem evI_187 : evI[187]? = some (130, 51, (105 : Int32)) := by decide +kernel
theorem evI_188 : evI[188]? = some (130, 52, (115 : Int32)) := by decide +kernel
theorem evI_189 : evI[189]? = some (130, 53, (104 : Int32)) := by decide +kernel
theorem evI_190 : evI[190]? = some (130, 54, (32 : Int32)) := by decide +kernel
theorem evI_191 : evI[191]? = some (130, 55, (119 : Int32)) := by decide +kernel
theorem evI_192 : evI[192]? = some (130, 56, (97 : Int32)) := by decide +kernel
theorem evI_193 : evI[193]? = some (130, 57, (116 : Int32)) := by decide +kernel
theorem evI_194 : evI[194]? = some (130, 58, (101 : Int32)) := by decide +kernel
theorem evI_195 : evI[195]? = some (130, 59, (114 : Int32)) := by decide +kernel
theorem evI_196 : evI[196]? = some (130, 60, (32 : Int32)) := by decide +kernel
theorem evI_197 : evI[197]? = some (130, 61, (115 : Int32)) := by decide +kernel
theorem evI_198 : evI[198]? = some (130, 62, (97 : Int32)) := by decide +kernel
theorem evI_199 : evI[199]? = some (130, 63, (108 : Int32)) := by decide +kernel
theorem evI_200 : evI[200]? = some (130, 64, (116 : Int32)) := by decide +kernel
theorem evI_201 : evI[201]? = some (130, 65, (32 : Int32)) := by decide +kernel
theorem evI_202 : evI[202]? = some (130, 66, (102 : Int32)) := by decide +kernel
theorem evI_203 : evI[203]? = some (130, 67, (108 : Int32)) := by decide +kernel
theorem evI_204 : evI[204]? = some (130, 68, (97 : Int32)) := by decide +kernel
theorem evI_205 : evI[205]? = some (130, 69, (116 : Int32)) := by decide +kernel
theorem evI_206 : evI[206]? = some (130, 70, (32 : Int32)) := by decide +kernel
theorem evI_207 : evI[207]? = some (130, 71, (115 : Int32)) := by decide +kernel
theorem evI_208 : evI[208]? = some (130, 72, (116 : Int32)) := by decide +kernel
theorem evI_209 : evI[209]? = some (130, 73, (114 : Int32)) := by decide +kernel
theorem evI_210 : evI[210]? = some (130, 74, (105 : Int32)) := by decide +kernel
theorem evI_211 : evI[211]? = some (130, 75, (110 : Int32)) := by decide +kernel
theorem evI_212 : evI[212]? = some (130, 76, (103 : Int32)) := by decide +kernel
theorem evI_213 : evI[213]? = some (130, 77, (32 : Int32)) := by decide +kernel
theorem evI_214 : evI[214]? = some (130, 78, (102 : Int32)) := by decide +kernel
theorem evI_215 : evI[215]? = some (130, 79, (105 : Int32)) := by decide +kernel
theorem evI_216 : evI[216]? = some (130, 80, (114 : Int32)) := by decide +kernel
theorem evI_217 : evI[217]? = some (130, 81, (101 : Int32)) := by decide +kernel
theorem evI_218 : evI[218]? = some (130, 82, (32 : Int32)) := by decide +kernel
theorem evI_219 : evI[219]? = some (130, 83, (109 : Int32)) := by decide +kernel
theorem evI_220 : evI[220]? = some (130, 84, (105 : Int32)) := by decide +kernel
theorem evI_221 : evI[221]? = some (130, 85, (110 : Int32)) := by decide +kernel
theorem evI_222 : evI[222]? = some (130, 86, (117 : Int32)) := by decide +kernel
theorem evI_223 : evI[223]? = some (130, 87, (116 : Int32)) := by decide +kernel
theorem evI_224 : evI[224]? = some (130, 88, (101 : Int32)) := by decide +kernel
theorem evI_225 : evI[225]? = some (130, 89, (32 : Int32)) := by decide +kernel
theorem evI_226 : evI[226]? = some (130, 90, (112 : Int32)) := by decide +kernel
theorem evI_227 : evI[227]? = some (130, 91, (108 : Int32)) := by decide +kernel
theorem evI_228 : evI[228]? = some (130, 92, (97 : Int32)) := by decide +kernel
theorem evI_229 : evI[229]? = some (130, 93, (121 : Int32)) := by decide +kernel
theorem evI_230 : evI[230]? = some (130, 94, (101 : Int32)) := by decide +kernel
theorem evI_231 : evI[231]? = some (130, 95, (100 : Int32)) := by decide +kernel
theorem evI_232 : evI[232]? = some (130, 96, (32 : Int32)) := by decide +kernel
theorem evI_233 : evI[233]? = some (130, 97, (100 : Int32)) := by decide +kernel
theorem evI_234 : evI[234]? = some (130, 98, (97 : Int32)) := by decide +kernel
theorem evI_235 : evI[235]? = some (130, 99, (121 : Int32)) := by decide +kernel
theorem evI_236 : evI[236]? = some (130, 100, (32 : Int32)) := by decide +kernel
theorem evI_237 : evI[237]? = some (130, 101, (111 : Int32)) := by decide +kernel
theorem evI_238 : evI[238]? = some (130, 102, (110 : Int32)) := by decide +kernel
theorem evI_239 : evI[239]? = some (130, 103, (32 : Int32)) := by decide +kernel
theorem evI_240 : evI[240]? = some (130, 104, (112 : Int32)) := by decide +kernel
theorem evI_241 : evI[241]? = some (130, 105, (108 : Int32)) := by decide +kernel
theorem evI_242 : evI[242]? = some (130, 106, (97 : Int32)) := by decide +kernel
theorem evI_243 : evI[243]? = some (130, 107, (121 : Int32)) := by decide +kernel
theorem evI_244 : evI[244]? = some (130, 108, (101 : Int32)) := by decide +kernel
theorem evI_245 : evI[245]? = some (130, 109, (114 : Int32)) := by decide +kernel
theorem evI_246 : evI[246]? = some (130, 110, (32 : Int32)) := by decide +kernel
theorem evI_247 : evI[247]? = some (130, 111, (112 : Int32)) := by decide +kernel
theorem evI_248 : evI[248]? = some (130, 112, (105 : Int32)) := by decide +kernel
theorem evI_249 : evI[249]? = some (130, 113, (101 : Int32)) := by decide +kernel
theorem evI_250 : evI[250]? = some (130, 114, (99 : Int32)) := by decide +kernel
theorem evI_251 : evI[251]? = some (130, 115, (101 : Int32)) := by decide +kernel
theorem evI_252 : evI[252]? = some (130, 116, (32 : Int32)) := by decide +kernel
theorem evI_253 : evI[253]? = some (130, 117, (116 : Int32)) := by decide +kernel
theorem evI_254 : evI[254]? = some (130, 118, (117 : Int32)) := by decide +kernel
theorem evI_255 : evI[255]? = some (130, 119, (110 : Int32)) := by decide +kernel
theorem evI_256 : evI[256]? = some (130, 120, (101 : Int32)) := by decide +kernel
theorem evI_257 : evI[257]? = some (130, 121, (32 : Int32)) := by decide +kernel
theorem evI_258 : evI[258]? = some (130, 122, (101 : Int32)) := by decide +kernel
theorem evI_259 : evI[259]? = some (130, 123, (109 : Int32)) := by decide +kernel
theorem evI_260 : evI[260]? = some (130, 124, (112 : Int32)) := by decide +kernel
theorem evI_261 : evI[261]? = some (130, 125, (116 : Int32)) := by decide +kernel
theorem evI_262 : evI[262]? = some (130, 126, (121 : Int32)) := by decide +kernel
theorem evI_263 : evI[263]? = some (130, 127, (32 : Int32)) := by decide +kernel
theorem evI_264 : evI[264]? = some (130, 128, (99 : Int32)) := by decide +kernel
theorem evI_265 : evI[265]? = some (130, 129, (104 : Int32)) := by decide +kernel
theorem evI_266 : evI[266]? = some (130, 130, (105 : Int32)) := by decide +kernel
theorem evI_267 : evI[267]? = some (130, 131, (108 : Int32)) := by decide +kernel
theorem evI_268 : evI[268]? = some (130, 132, (100 : Int32)) := by decide +kernel
theorem evI_269 : evI[269]? = some (130, 133, (32 : Int32)) := by decide +kernel
theorem evI_270 : evI[270]? = some (130, 134, (100 : Int32)) := by decide +kernel
theorem evI_271 : evI[271]? = some (130, 135, (114 : Int32)) := by decide +kernel
theorem evI_272 : evI[272]? = some (130, 136, (121 : Int32)) := by decide +kernel
theorem evI_273 : evI[273]? = some (130, 137, (32 : Int32)) := by decide +kernel
theorem evI_274 : evI[274]? = some (130, 138, (108 : Int32)) := by decide +kernel
theorem evI_275 : evI[275]? = some (130, 139, (105 : Int32)) := by decide +kernel
theorem evI_276 : evI[276]? = some (130, 140, (107 : Int32)) := by decide +kernel
theorem evI_277 : evI[277]? = some (130, 141, (101 : Int32)) := by decide +kernel
theorem evI_278 : evI[278]? = some (130, 142, (32 : Int32)) := by decide +kernel
theorem evI_279 : evI[279]? = some (119, 36, ((-1) : Int32)) := by decide +kernel
theorem evP_0 : evP[0]? = some (3, 0, 4) := by decide +kernel
theorem evP_1 : evP[1]? = some (3, 1, 5) := by decide +kernel
theorem evP_2 : evP[2]? = some (3, 2, 6) := by decide +kernel
theorem evP_3 : evP[3]? = some (3, 3, 7) := by decide +kernel
theorem evP_4 : evP[4]? = some (2, 0, 3) := by decide +kernel
theorem evP_5 : evP[5]? = some (8, 0, 9) := by decide +kernel
theorem evP_6 : evP[6]? = some (8, 1, 10) := by decide +kernel
theorem evP_7 : evP[7]? = some (8, 2, 11) := by decide +kernel
theorem evP_8 : evP[8]? = some (8, 3, 12) := by decide +kernel
theorem evP_9 : evP[9]? = some (8, 4, 13) := by decide +kernel
theorem evP_10 : evP[10]? = some (8, 5, 14) := by decide +kernel
theorem evP_11 : evP[11]? = some (2, 1, 8) := by decide +kernel
theorem evP_12 : evP[12]? = some (15, 0, 16) := by decide +kernel
theorem evP_13 : evP[13]? = some (15, 1, 17) := by decide +kernel
theorem evP_14 : evP[14]? = some (2, 2, 15) := by decide +kernel
theorem evP_15 : evP[15]? = some (18, 0, 19) := by decide +kernel
theorem evP_16 : evP[16]? = some (18, 1, 20) := by decide +kernel
theorem evP_17 : evP[17]? = some (2, 3, 18) := by decide +kernel
theorem evP_18 : evP[18]? = some (21, 0, 22) := by decide +kernel
theorem evP_19 : evP[19]? = some (21, 1, 23) := by decide +kernel
theorem evP_20 : evP[20]? = some (2, 4, 21) := by decide +kernel
theorem evP_21 : evP[21]? = some (24, 0, 25) := by decide +kernel
theorem evP_22 : evP[22]? = some (24, 1, 26) := by decide +kernel
theorem evP_23 : evP[23]? = some (2, 5, 24) := by decide +kernel
theorem evP_24 : evP[24]? = some (27, 0, 28) := by decide +kernel
theorem evP_25 : evP[25]? = some (27, 1, 29) := by decide +kernel
theorem evP_26 : evP[26]? = some (27, 2, 30) := by decide +kernel
theorem evP_27 : evP[27]? = some (27, 3, 31) := by decide +kernel
theorem evP_28 : evP[28]? = some (27, 4, 32) := by decide +kernel
theorem evP_29 : evP[29]? = some (27, 7, 33) := by decide +kernel
theorem evP_30 : evP[30]? = some (2, 6, 27) := by decide +kernel
theorem evP_31 : evP[31]? = some (2, 7, 34) := by decide +kernel
theorem evP_32 : evP[32]? = some (1, 0, 2) := by decide +kernel
theorem evP_33 : evP[33]? = some (35, 0, 36) := by decide +kernel
theorem evP_34 : evP[34]? = some (35, 1, 37) := by decide +kernel
theorem evP_35 : evP[35]? = some (35, 2, 38) := by decide +kernel
theorem evP_36 : evP[36]? = some (35, 3, 39) := by decide +kernel
theorem evP_37 : evP[37]? = some (1, 1, 35) := by decide +kernel
theorem evP_38 : evP[38]? = some (1, 2, 3) := by decide +kernel
theorem evP_39 : evP[39]? = some (1, 4, 40) := by decide +kernel
theorem evP_40 : evP[40]? = some (1, 5, 41) := by decide +kernel
theorem evP_41 : evP[41]? = some (1, 6, 42) := by decide +kernel
theorem evP_42 : evP[42]? = some (1, 7, 43) := by decide +kernel
theorem evP_43 : evP[43]? = some (0, 0, 1) := by decide +kernel
theorem evP_44 : evP[44]? = some (0, 1, 2) := by decide +kernel
theorem evP_45 : evP[45]? = some (45, 0, 46) := by decide +kernel
theorem evP_46 : evP[46]? = some (45, 1, 47) := by decide +kernel
theorem evP_47 : evP[47]? = some (45, 2, 48) := by decide +kernel
theorem evP_48 : evP[48]? = some (45, 3, 49) := by decide +kernel
theorem evP_49 : evP[49]? = some (44, 0, 45) := by decide +kernel
theorem evP_50 : evP[50]? = some (50, 0, 51) := by decide +kernel
theorem evP_51 : evP[51]? = some (50, 1, 52) := by decide +kernel
theorem evP_52 : evP[52]? = some (50, 2, 53) := by decide +kernel
theorem evP_53 : evP[53]? = some (50, 3, 54) := by decide +kernel
theorem evP_54 : evP[54]? = some (50, 4, 55) := by decide +kernel
theorem evP_55 : evP[55]? = some (50, 5, 56) := by decide +kernel
theorem evP_56 : evP[56]? = some (44, 1, 50) := by decide +kernel
theorem evP_57 : evP[57]? = some (57, 0, 58) := by decide +kernel
theorem evP_58 : evP[58]? = some (57, 1, 59) := by decide +kernel
theorem evP_59 : evP[59]? = some (44, 2, 57) := by decide +kernel
theorem evP_60 : evP[60]? = some (60, 0, 61) := by decide +kernel
theorem evP_61 : evP[61]? = some (60, 1, 62) := by decide +kernel
theorem evP_62 : evP[62]? = some (44, 3, 60) := by decide +kernel
theorem evP_63 : evP[63]? = some (63, 0, 64) := by decide +kernel
theorem evP_64 : evP[64]? = some (63, 1, 65) := by decide +kernel
theorem evP_65 : evP[65]? = some (44, 4, 63) := by decide +kernel
theorem evP_66 : evP[66]? = some (66, 0, 67) := by decide +kernel
theorem evP_67 : evP[67]? = some (66, 1, 68) := by decide +kernel
theorem evP_68 : evP[68]? = some (44, 5, 66) := by decide +kernel
theorem evP_69 : evP[69]? = some (69, 0, 70) := by decide +kernel
theorem evP_70 : evP[70]? = some (69, 1, 71) := by decide +kernel
theorem evP_71 : evP[71]? = some (69, 2, 72) := by decide +kernel
theorem evP_72 : evP[72]? = some (69, 3, 73) := by decide +kernel
theorem evP_73 : evP[73]? = some (69, 4, 74) := by decide +kernel
theorem evP_74 : evP[74]? = some (69, 7, 75) := by decide +kernel
theorem evP_75 : evP[75]? = some (44, 6, 69) := by decide +kernel
theorem evP_76 : evP[76]? = some (44, 7, 76) := by decide +kernel
theorem evP_77 : evP[77]? = some (0, 2, 44) := by decide +kernel
theorem evP_78 : evP[78]? = some (77, 0, 78) := by decide +kernel
theorem evP_79 : evP[79]? = some (79, 0, 80) := by decide +kernel
theorem evP_80 : evP[80]? = some (79, 1, 81) := by decide +kernel
theorem evP_81 : evP[81]? = some (79, 2, 82) := by decide +kernel
theorem evP_82 : evP[82]? = some (79, 3, 83) := by decide +kernel
theorem evP_83 : evP[83]? = some (78, 0, 79) := by decide +kernel
theorem evP_84 : evP[84]? = some (84, 0, 85) := by decide +kernel
theorem evP_85 : evP[85]? = some (84, 1, 86) := by decide +kernel
theorem evP_86 : evP[86]? = some (84, 2, 87) := by decide +kernel
theorem evP_87 : evP[87]? = some (84, 3, 88) := by decide +kernel
theorem evP_88 : evP[88]? = some (78, 1, 84) := by decide +kernel
theorem evP_89 : evP[89]? = some (89, 0, 90) := by decide +kernel
theorem evP_90 : evP[90]? = some (89, 1, 91) := by decide +kernel
theorem evP_91 : evP[91]? = some (89, 2, 92) := by decide +kernel
theorem evP_92 : evP[92]? = some (89, 3, 93) := by decide +kernel
theorem evP_93 : evP[93]? = some (78, 2, 89) := by decide +kernel
theorem evP_94 : evP[94]? = some (94, 0, 95) := by decide +kernel
theorem evP_95 : evP[95]? = some (94, 1, 96) := by decide +kernel
theorem evP_96 : evP[96]? = some (94, 2, 97) := by decide +kernel
theorem evP_97 : evP[97]? = some (94, 3, 98) := by decide +kernel
theorem evP_98 : evP[98]? = some (78, 3, 94) := by decide +kernel
theorem evP_99 : evP[99]? = some (99, 0, 100) := by decide +kernel
theorem evP_100 : evP[100]? = some (99, 1, 101) := by decide +kernel
theorem evP_101 : evP[101]? = some (99, 2, 102) := by decide +kernel
theorem evP_102 : evP[102]? = some (99, 3, 103) := by decide +kernel
theorem evP_103 : evP[103]? = some (78, 4, 99) := by decide +kernel
theorem evP_104 : evP[104]? = some (104, 0, 105) := by decide +kernel
theorem evP_105 : evP[105]? = some (104, 1, 106) := by decide +kernel
theorem evP_106 : evP[106]? = some (104, 2, 107) := by decide +kernel
theorem evP_107 : evP[107]? = some (104, 3, 108) := by decide +kernel
theorem evP_108 : evP[108]? = some (78, 5, 104) := by decide +kernel
theorem evP_109 : evP[109]? = some (0, 4, 77) := by decide +kernel
theorem evP_110 : evP[110]? = some (109, 0, 110) := by decide +kernel
theorem evP_111 : evP[111]? = some (109, 2, 111) := by decide +kernel
theorem evP_112 : evP[112]? = some (109, 3, 112) := by decide +kernel
theorem evP_113 : evP[113]? = some (109, 4, 113) := by decide +kernel
theorem evP_114 : evP[114]? = some (114, 0, 115) := by decide +kernel
theorem evP_115 : evP[115]? = some (114, 1, 116) := by decide +kernel
theorem evP_116 : evP[116]? = some (109, 10, 114) := by decide +kernel
theorem evP_117 : evP[117]? = some (0, 5, 109) := by decide +kernel
theorem evP_118 : evP[118]? = some (117, 0, 118) := by decide +kernel
theorem evP_119 : evP[119]? = some (0, 6, 117) := by decide +kernel
theorem evP_120 : evP[120]? = some (119, 1, 120) := by decide +kernel
theorem evP_121 : evP[121]? = some (119, 2, 121) := by decide +kernel
theorem evP_122 : evP[122]? = some (119, 4, 122) := by decide +kernel
theorem evP_123 : evP[123]? = some (119, 8, 123) := by decide +kernel
theorem evP_124 : evP[124]? = some (119, 9, 124) := by decide +kernel
theorem evP_125 : evP[125]? = some (119, 10, 125) := by decide +kernel
theorem evP_126 : evP[126]? = some (119, 11, 126) := by decide +kernel
theorem evP_127 : evP[127]? = some (119, 12, 127) := by decide +kernel
theorem evP_128 : evP[128]? = some (119, 13, 128) := by decide +kernel
theorem evP_129 : evP[129]? = some (119, 14, 129) := by decide +kernel
theorem evP_130 : evP[130]? = some (119, 20, 130) := by decide +kernel
theorem evP_131 : evP[131]? = some (119, 21, 131) := by decide +kernel
theorem evP_132 : evP[132]? = some (119, 22, 132) := by decide +kernel
theorem evP_133 : evP[133]? = some (119, 23, 133) := by decide +kernel
theorem evP_134 : evP[134]? = some (119, 24, 134) := by decide +kernel
theorem evP_135 : evP[135]? = some (119, 25, 135) := by decide +kernel
theorem evP_136 : evP[136]? = some (119, 26, 136) := by decide +kernel
theorem evP_137 : evP[137]? = some (119, 27, 137) := by decide +kernel
theorem evP_138 : evP[138]? = some (119, 31, 138) := by decide +kernel
theorem evP_139 : evP[139]? = some (119, 38, 139) := by decide +kernel
theorem evP_140 : evP[140]? = some (119, 40, 140) := by decide +kernel
theorem evP_141 : evP[141]? = some (119, 42, 141) := by decide +kernel
theorem evP_142 : evP[142]? = some (119, 43, 142) := by decide +kernel
theorem evP_143 : evP[143]? = some (119, 44, 143) := by decide +kernel
theorem evP_144 : evP[144]? = some (119, 46, 144) := by decide +kernel
theorem evP_145 : evP[145]? = some (119, 47, 145) := by decide +kernel
theorem evP_146 : evP[146]? = some (119, 49, 146) := by decide +kernel
theorem evP_147 : evP[147]? = some (119, 50, 147) := by decide +kernel
theorem evP_148 : evP[148]? = some (119, 51, 148) := by decide +kernel
theorem evP_149 : evP[149]? = some (119, 52, 149) := by decide +kernel
theorem evP_150 : evP[150]? = some (119, 54, 150) := by decide +kernel
theorem evP_151 : evP[151]? = some (119, 55, 151) := by decide +kernel
theorem evP_152 : evP[152]? = some (119, 56, 152) := by decide +kernel
theorem evP_153 : evP[153]? = some (119, 57, 153) := by decide +kernel
theorem evP_154 : evP[154]? = some (119, 61, 154) := by decide +kernel

/-! A ROW AN INSTRUCTION -/
def mD (j : mMeth) (pc : Nat) (i : Instr) (len q : Nat) : Prop := decode j.2.1 pc = .ok (i, len) ∧ pc + len = q
def mPush (j : mMeth) (pc : Nat) (v : Int32) (q : Nat) : Prop := (∃ z : Int, mD j pc (.iconst z) 1 q ∧ Int32.ofInt z = v) ∨ (∃ z : Int, mD j pc (.bipush z) 2 q ∧ (Int8.ofInt z).toInt32 = v) ∨ (∃ z : Int, mD j pc (.sipush z) 3 q ∧ (Int16.ofInt z).toInt32 = v) ∨ (∃ x : Nat, mD j pc (.ldc x) 2 q ∧ Cond.constant j.1.cls x v ∈ mTb) ∨ ∃ x : Nat, mD j pc (.ldc_w x) 3 q ∧ Cond.constant j.1.cls x v ∈ mTb
def mPushL (j : mMeth) (pc : Nat) (v : Int64) (q : Nat) : Prop := (∃ z : Fin 2, mD j pc (.lconst z) 1 q ∧ Int64.ofNat (z : Nat) = v) ∨ ∃ x : Nat, mD j pc (.ldc2_w x) 3 q ∧ Cond.constantLong j.1.cls x v ∈ mTb
def mLdI (j : mMeth) (pc i q : Nat) : Prop := (∃ k : Fin 4, mD j pc (.iload_n k) 1 q ∧ (k : Nat) = i) ∨ mD j pc (.iload i) 2 q
def mLdA (j : mMeth) (pc i q : Nat) : Prop := (∃ k : Fin 4, mD j pc (.aload_n k) 1 q ∧ (k : Nat) = i) ∨ mD j pc (.aload i) 2 q
def mLdL (j : mMeth) (pc i q : Nat) : Prop := (∃ k : Fin 4, mD j pc (.lload_n k) 1 q ∧ (k : Nat) = i) ∨ mD j pc (.lload i) 2 q
def mStI (j : mMeth) (pc i q : Nat) : Prop := (∃ k : Fin 4, mD j pc (.istore_n k) 1 q ∧ (k : Nat) = i) ∨ mD j pc (.istore i) 2 q
def mStA (j : mMeth) (pc i q : Nat) : Prop := (∃ k : Fin 4, mD j pc (.astore_n k) 1 q ∧ (k : Nat) = i) ∨ mD j pc (.astore i) 2 q
def mStL (j : mMeth) (pc i q : Nat) : Prop := (∃ k : Fin 4, mD j pc (.lstore_n k) 1 q ∧ (k : Nat) = i) ∨ mD j pc (.lstore i) 2 q
def mBr (j : mMeth) (pc : Nat) (o : Jvm.ClassFile.Cond) (q t : Nat) : Prop := ∃ off : Int, mD j pc (.if_icmp o off) 3 q ∧ (pc : Int) + off = (t : Int)
def mBz (j : mMeth) (pc : Nat) (o : Jvm.ClassFile.Cond) (q t : Nat) : Prop := ∃ off : Int, mD j pc (.ifCond o off) 3 q ∧ (pc : Int) + off = (t : Int)
def mBn (j : mMeth) (pc q t : Nat) : Prop := ∃ off : Int, mD j pc (.ifnull off) 3 q ∧ (pc : Int) + off = (t : Int)
def mBm (j : mMeth) (pc q t : Nat) : Prop := ∃ off : Int, mD j pc (.ifnonnull off) 3 q ∧ (pc : Int) + off = (t : Int)
def mGo (j : mMeth) (pc t : Nat) : Prop := ∃ off : Int, decode j.2.1 pc = .ok (.goto off, 3) ∧ (pc : Int) + off = (t : Int)
section MVR
variable {X : Nat × (Nat → Int32)} {j : mMeth} {d bc bs pc q t i a : Nat} {L L' st : List Value} {n : Nat} {K : mK} {I : mI} {P : mP} {Q : mQ} {x y : Int32} {z w : Int64}
theorem mV_iadd (hd : mD j pc .iadd 1 q) (k : mV X j d bc bs q L (.int (x + y) :: st) n K I P Q) : mV X j d bc bs pc L (.int y :: .int x :: st) n K I P Q := by
  intro b D cI cS aK aV p l e R s m args below meth c H locs cells slots Tc Ts ls hC hR hS hL t1 t2 t3 t4
  obtain ⟨h1, rfl⟩ := hd
  exact lv_iadd hC.1 hC.2.1 h1 (k b D cI cS aK aV p l e R s m args below meth c H locs cells slots Tc Ts ls hC hR hS hL t1 t2 t3 t4)
theorem mV_isub (hd : mD j pc .isub 1 q) (k : mV X j d bc bs q L (.int (x - y) :: st) n K I P Q) : mV X j d bc bs pc L (.int y :: .int x :: st) n K I P Q := by
  intro b D cI cS aK aV p l e R s m args below meth c H locs cells slots Tc Ts ls hC hR hS hL t1 t2 t3 t4
  obtain ⟨h1, rfl⟩ := hd
  exact lv_isub hC.1 hC.2.1 h1 (k b D cI cS aK aV p l e R s m args below meth c H locs cells slots Tc Ts ls hC hR hS hL t1 t2 t3 t4)
theorem mV_imul (hd : mD j pc .imul 1 q) (k : mV X j d bc bs q L (.int (x * y) :: st) n K I P Q) : mV X j d bc bs pc L (.int y :: .int x :: st) n K I P Q := by
  intro b D cI cS aK aV p l e R s m args below meth c H locs cells slots Tc Ts ls hC hR hS hL t1 t2 t3 t4
  obtain ⟨h1, rfl⟩ := hd
  exact lv_imul hC.1 hC.2.1 h1 (k b D cI cS aK aV p l e R s m args below meth c H locs cells slots Tc Ts ls hC hR hS hL t1 t2 t3 t4)
theorem mV_iand (hd : mD j pc .iand 1 q) (k : mV X j d bc bs q L (.int (x &&& y) :: st) n K I P Q) : mV X j d bc bs pc L (.int y :: .int x :: st) n K I P Q := by
  intro b D cI cS aK aV p l e R s m args below meth c H locs cells slots Tc Ts ls hC hR hS hL t1 t2 t3 t4
  obtain ⟨h1, rfl⟩ := hd
  exact lv_iand hC.1 hC.2.1 h1 (k b D cI cS aK aV p l e R s m args below meth c H locs cells slots Tc Ts ls hC hR hS hL t1 t2 t3 t4)
theorem mV_ior (hd : mD j pc .ior 1 q) (k : mV X j d bc bs q L (.int (x ||| y) :: st) n K I P Q) : mV X j d bc bs pc L (.int y :: .int x :: st) n K I P Q := by
  intro b D cI cS aK aV p l e R s m args below meth c H locs cells slots Tc Ts ls hC hR hS hL t1 t2 t3 t4
  obtain ⟨h1, rfl⟩ := hd
  exact lv_ior hC.1 hC.2.1 h1 (k b D cI cS aK aV p l e R s m args below meth c H locs cells slots Tc Ts ls hC hR hS hL t1 t2 t3 t4)
theorem mV_ixor (hd : mD j pc .ixor 1 q) (k : mV X j d bc bs q L (.int (x ^^^ y) :: st) n K I P Q) : mV X j d bc bs pc L (.int y :: .int x :: st) n K I P Q := by
  intro b D cI cS aK aV p l e R s m args below meth c H locs cells slots Tc Ts ls hC hR hS hL t1 t2 t3 t4
  obtain ⟨h1, rfl⟩ := hd
  exact lv_ixor hC.1 hC.2.1 h1 (k b D cI cS aK aV p l e R s m args below meth c H locs cells slots Tc Ts ls hC hR hS hL t1 t2 t3 t4)
theorem mV_ishl (hd : mD j pc .ishl 1 q) (k : mV X j d bc bs q L (.int (x <<< (y &&& 31)) :: st) n K I P Q) : mV X j d bc bs pc L (.int y :: .int x :: st) n K I P Q := by
  intro b D cI cS aK aV p l e R s m args below meth c H locs cells slots Tc Ts ls hC hR hS hL t1 t2 t3 t4
  obtain ⟨h1, rfl⟩ := hd
  exact lv_ishl hC.1 hC.2.1 h1 (k b D cI cS aK aV p l e R s m args below meth c H locs cells slots Tc Ts ls hC hR hS hL t1 t2 t3 t4)
theorem mV_ishr (hd : mD j pc .ishr 1 q) (k : mV X j d bc bs q L (.int (x >>> (y &&& 31)) :: st) n K I P Q) : mV X j d bc bs pc L (.int y :: .int x :: st) n K I P Q := by
  intro b D cI cS aK aV p l e R s m args below meth c H locs cells slots Tc Ts ls hC hR hS hL t1 t2 t3 t4
  obtain ⟨h1, rfl⟩ := hd
  exact lv_ishr hC.1 hC.2.1 h1 (k b D cI cS aK aV p l e R s m args below meth c H locs cells slots Tc Ts ls hC hR hS hL t1 t2 t3 t4)
theorem mV_iushr (hd : mD j pc .iushr 1 q) (k : mV X j d bc bs q L (.int (x.toUInt32 >>> (y.toUInt32 &&& Int32.toUInt32 31)).toInt32 :: st) n K I P Q) : mV X j d bc bs pc L (.int y :: .int x :: st) n K I P Q := by
  intro b D cI cS aK aV p l e R s m args below meth c H locs cells slots Tc Ts ls hC hR hS hL t1 t2 t3 t4
  obtain ⟨h1, rfl⟩ := hd
  exact lv_iushr hC.1 hC.2.1 h1 rfl (k b D cI cS aK aV p l e R s m args below meth c H locs cells slots Tc Ts ls hC hR hS hL t1 t2 t3 t4)
theorem mV_ineg (hd : mD j pc .ineg 1 q) (k : mV X j d bc bs q L (.int (-x) :: st) n K I P Q) : mV X j d bc bs pc L (.int x :: st) n K I P Q := by
  intro b D cI cS aK aV p l e R s m args below meth c H locs cells slots Tc Ts ls hC hR hS hL t1 t2 t3 t4
  obtain ⟨h1, rfl⟩ := hd
  exact lv_ineg hC.1 hC.2.1 h1 (k b D cI cS aK aV p l e R s m args below meth c H locs cells slots Tc Ts ls hC hR hS hL t1 t2 t3 t4)
theorem mV_idiv (hd : mD j pc .idiv 1 q) (hz : ¬ y = 0) (k : mV X j d bc bs q L (.int (x / y) :: st) n K I P Q) : mV X j d bc bs pc L (.int y :: .int x :: st) n K I P Q := by
  intro b D cI cS aK aV p l e R s m args below meth c H locs cells slots Tc Ts ls hC hR hS hL t1 t2 t3 t4
  obtain ⟨h1, rfl⟩ := hd
  exact lv_idiv hC.1 hC.2.1 h1 hz (k b D cI cS aK aV p l e R s m args below meth c H locs cells slots Tc Ts ls hC hR hS hL t1 t2 t3 t4)
theorem mV_irem (hd : mD j pc .irem 1 q) (hz : ¬ y = 0) (k : mV X j d bc bs q L (.int (x - x / y * y) :: st) n K I P Q) : mV X j d bc bs pc L (.int y :: .int x :: st) n K I P Q := by
  intro b D cI cS aK aV p l e R s m args below meth c H locs cells slots Tc Ts ls hC hR hS hL t1 t2 t3 t4
  obtain ⟨h1, rfl⟩ := hd
  exact lv_irem hC.1 hC.2.1 h1 hz (k b D cI cS aK aV p l e R s m args below meth c H locs cells slots Tc Ts ls hC hR hS hL t1 t2 t3 t4)
theorem mV_i2c (hd : mD j pc .i2c 1 q) (k : mV X j d bc bs q L (.int (x.toUInt32 % 65536).toInt32 :: st) n K I P Q) : mV X j d bc bs pc L (.int x :: st) n K I P Q := by
  intro b D cI cS aK aV p l e R s m args below meth c H locs cells slots Tc Ts ls hC hR hS hL t1 t2 t3 t4
  obtain ⟨h1, rfl⟩ := hd
  exact lv_i2c hC.1 hC.2.1 h1 rfl (k b D cI cS aK aV p l e R s m args below meth c H locs cells slots Tc Ts ls hC hR hS hL t1 t2 t3 t4)
theorem mV_i2l (hd : mD j pc .i2l 1 q) (k : mV X j d bc bs q L (.long x.toInt64 :: st) n K I P Q) : mV X j d bc bs pc L (.int x :: st) n K I P Q := by
  intro b D cI cS aK aV p l e R s m args below meth c H locs cells slots Tc Ts ls hC hR hS hL t1 t2 t3 t4
  obtain ⟨h1, rfl⟩ := hd
  exact lv_i2l hC.1 hC.2.1 h1 rfl (k b D cI cS aK aV p l e R s m args below meth c H locs cells slots Tc Ts ls hC hR hS hL t1 t2 t3 t4)
theorem mV_l2i (hd : mD j pc .l2i 1 q) (k : mV X j d bc bs q L (.int z.toInt32 :: st) n K I P Q) : mV X j d bc bs pc L (.long z :: st) n K I P Q := by
  intro b D cI cS aK aV p l e R s m args below meth c H locs cells slots Tc Ts ls hC hR hS hL t1 t2 t3 t4
  obtain ⟨h1, rfl⟩ := hd
  exact lv_l2i hC.1 hC.2.1 h1 rfl (k b D cI cS aK aV p l e R s m args below meth c H locs cells slots Tc Ts ls hC hR hS hL t1 t2 t3 t4)
theorem mV_ladd (hd : mD j pc .ladd 1 q) (k : mV X j d bc bs q L (.long (z + w) :: st) n K I P Q) : mV X j d bc bs pc L (.long w :: .long z :: st) n K I P Q := by
  intro b D cI cS aK aV p l e R s m args below meth c H locs cells slots Tc Ts ls hC hR hS hL t1 t2 t3 t4
  obtain ⟨h1, rfl⟩ := hd
  exact lv_ladd hC.1 hC.2.1 h1 (k b D cI cS aK aV p l e R s m args below meth c H locs cells slots Tc Ts ls hC hR hS hL t1 t2 t3 t4)
theorem mV_lmul (hd : mD j pc .lmul 1 q) (k : mV X j d bc bs q L (.long (z * w) :: st) n K I P Q) : mV X j d bc bs pc L (.long w :: .long z :: st) n K I P Q := by
  intro b D cI cS aK aV p l e R s m args below meth c H locs cells slots Tc Ts ls hC hR hS hL t1 t2 t3 t4
  obtain ⟨h1, rfl⟩ := hd
  exact lv_lmul hC.1 hC.2.1 h1 (k b D cI cS aK aV p l e R s m args below meth c H locs cells slots Tc Ts ls hC hR hS hL t1 t2 t3 t4)
theorem mV_ldiv (hd : mD j pc .ldiv 1 q) (hz : ¬ w = 0) (k : mV X j d bc bs q L (.long (z / w) :: st) n K I P Q) : mV X j d bc bs pc L (.long w :: .long z :: st) n K I P Q := by
  intro b D cI cS aK aV p l e R s m args below meth c H locs cells slots Tc Ts ls hC hR hS hL t1 t2 t3 t4
  obtain ⟨h1, rfl⟩ := hd
  exact lv_ldiv hC.1 hC.2.1 h1 hz (k b D cI cS aK aV p l e R s m args below meth c H locs cells slots Tc Ts ls hC hR hS hL t1 t2 t3 t4)
theorem mV_lrem (hd : mD j pc .lrem 1 q) (hz : ¬ w = 0) (k : mV X j d bc bs q L (.long (z - z / w * w) :: st) n K I P Q) : mV X j d bc bs pc L (.long w :: .long z :: st) n K I P Q := by
  intro b D cI cS aK aV p l e R s m args below meth c H locs cells slots Tc Ts ls hC hR hS hL t1 t2 t3 t4
  obtain ⟨h1, rfl⟩ := hd
  exact lv_lrem hC.1 hC.2.1 h1 hz (k b D cI cS aK aV p l e R s m args below meth c H locs cells slots Tc Ts ls hC hR hS hL t1 t2 t3 t4)
theorem mV_lcmp (hd : mD j pc .lcmp 1 q) (k : mV X j d bc bs q L (.int (lg_cmp z w) :: st) n K I P Q) : mV X j d bc bs pc L (.long w :: .long z :: st) n K I P Q := by
  intro b D cI cS aK aV p l e R s m args below meth c H locs cells slots Tc Ts ls hC hR hS hL t1 t2 t3 t4
  obtain ⟨h1, rfl⟩ := hd
  exact W.lcmp hC.1 hC.2.1 h1 (k b D cI cS aK aV p l e R s m args below meth c H locs cells slots Tc Ts ls hC hR hS hL t1 t2 t3 t4)
theorem mV_null (hd : mD j pc .aconst_null 1 q) (k : mV X j d bc bs q L (.null :: st) n K I P Q) : mV X j d bc bs pc L st n K I P Q := by
  intro b D cI cS aK aV p l e R s m args below meth c H locs cells slots Tc Ts ls hC hR hS hL t1 t2 t3 t4
  obtain ⟨h1, rfl⟩ := hd
  exact lv_null hC.1 hC.2.1 h1 (k b D cI cS aK aV p l e R s m args below meth c H locs cells slots Tc Ts ls hC hR hS hL t1 t2 t3 t4)
theorem mV_dup {v : Value} (hd : mD j pc .dup 1 q) (hv : v.category = 1) (k : mV X j d bc bs q L (v :: v :: st) n K I P Q) : mV X j d bc bs pc L (v :: st) n K I P Q := by
  intro b D cI cS aK aV p l e R s m args below meth c H locs cells slots Tc Ts ls hC hR hS hL t1 t2 t3 t4
  obtain ⟨h1, rfl⟩ := hd
  exact lv_dup hC.1 hC.2.1 h1 (by rw [mEm_cat]; exact hv) (k b D cI cS aK aV p l e R s m args below meth c H locs cells slots Tc Ts ls hC hR hS hL t1 t2 t3 t4)
theorem mV_pop {v : Value} (hd : mD j pc .pop 1 q) (hv : v.category = 1) (k : mV X j d bc bs q L st n K I P Q) : mV X j d bc bs pc L (v :: st) n K I P Q := by
  intro b D cI cS aK aV p l e R s m args below meth c H locs cells slots Tc Ts ls hC hR hS hL t1 t2 t3 t4
  obtain ⟨h1, rfl⟩ := hd
  exact lv_pop hC.1 hC.2.1 h1 (by rw [mEm_cat]; exact hv) (k b D cI cS aK aV p l e R s m args below meth c H locs cells slots Tc Ts ls hC hR hS hL t1 t2 t3 t4)
theorem mV_dup2 {v u : Value} (hd : mD j pc .dup2 1 q) (hv : v.category = 1) (hu : u.category = 1) (k : mV X j d bc bs q L (v :: u :: v :: u :: st) n K I P Q) : mV X j d bc bs pc L (v :: u :: st) n K I P Q := by
  intro b D cI cS aK aV p l e R s m args below meth c H locs cells slots Tc Ts ls hC hR hS hL t1 t2 t3 t4
  obtain ⟨h1, rfl⟩ := hd
  exact lv_dup2_11 hC.1 hC.2.1 h1 (by rw [mEm_cat]; exact hv) (by rw [mEm_cat]; exact hu) (k b D cI cS aK aV p l e R s m args below meth c H locs cells slots Tc Ts ls hC hR hS hL t1 t2 t3 t4)
theorem mV_push (hd : mPush j pc x q) (k : mV X j d bc bs q L (.int x :: st) n K I P Q) : mV X j d bc bs pc L st n K I P Q := by
  intro b D cI cS aK aV p l e R s m args below meth c H locs cells slots Tc Ts ls hC hR hS hL t1 t2 t3 t4
  have k := k b D cI cS aK aV p l e R s m args below meth c H locs cells slots Tc Ts ls hC hR hS hL t1 t2 t3 t4
  rcases hd with ⟨z, ⟨h1, rfl⟩, h2⟩ | ⟨z, ⟨h1, rfl⟩, h2⟩ | ⟨z, ⟨h1, rfl⟩, h2⟩ | ⟨z, ⟨h1, rfl⟩, h2⟩ | ⟨z, ⟨h1, rfl⟩, h2⟩
  · exact lv_iconst hC.1 hC.2.1 h1 h2 k
  · exact lv_bipush hC.1 hC.2.1 h1 h2 k
  · exact lv_sipush hC.1 hC.2.1 h1 h2 k
  · exact lv_ldc hC.1 hC.2.1 hC.2.2.2.2.1 (hC.2.2.2.2.2.2.2.1 _ h2) h1 k
  · exact lv_ldcw hC.1 hC.2.1 hC.2.2.2.2.1 (hC.2.2.2.2.2.2.2.1 _ h2) h1 k
theorem mV_pushL (hd : mPushL j pc z q) (k : mV X j d bc bs q L (.long z :: st) n K I P Q) : mV X j d bc bs pc L st n K I P Q := by
  intro b D cI cS aK aV p l e R s m args below meth c H locs cells slots Tc Ts ls hC hR hS hL t1 t2 t3 t4
  have k := k b D cI cS aK aV p l e R s m args below meth c H locs cells slots Tc Ts ls hC hR hS hL t1 t2 t3 t4
  rcases hd with ⟨z, ⟨h1, rfl⟩, h2⟩ | ⟨z, ⟨h1, rfl⟩, h2⟩
  · exact lv_lconst hC.1 hC.2.1 h1 h2 k
  · exact lv_ldc2 hC.1 hC.2.1 hC.2.2.2.2.1 (hC.2.2.2.2.2.2.2.1 _ h2) h1 k
theorem mV_iload (hd : mLdI j pc i q) (hv : L[i]? = some (.int x)) (k : mV X j d bc bs q L (.int x :: st) n K I P Q) : mV X j d bc bs pc L st n K I P Q := by
  intro b D cI cS aK aV p l e R s m args below meth c H locs cells slots Tc Ts ls hC hR hS hL t1 t2 t3 t4
  have k := k b D cI cS aK aV p l e R s m args below meth c H locs cells slots Tc Ts ls hC hR hS hL t1 t2 t3 t4
  have hg := hL.at hv (fun h => by cases h)
  rcases hd with ⟨kf, ⟨h1, rfl⟩, h2⟩ | ⟨h1, rfl⟩
  · exact lv_iload_n hC.1 hC.2.1 h1 h2 hg k
  · exact lv_iload hC.1 hC.2.1 h1 hg k
theorem mV_lload (hd : mLdL j pc i q) (hv : L[i]? = some (.long z)) (k : mV X j d bc bs q L (.long z :: st) n K I P Q) : mV X j d bc bs pc L st n K I P Q := by
  intro b D cI cS aK aV p l e R s m args below meth c H locs cells slots Tc Ts ls hC hR hS hL t1 t2 t3 t4
  have k := k b D cI cS aK aV p l e R s m args below meth c H locs cells slots Tc Ts ls hC hR hS hL t1 t2 t3 t4
  have hg := hL.at hv (fun h => by cases h)
  rcases hd with ⟨kf, ⟨h1, rfl⟩, h2⟩ | ⟨h1, rfl⟩
  · exact lv_lload_n hC.1 hC.2.1 h1 h2 hg k
  · exact lv_lload hC.1 hC.2.1 h1 hg k
theorem mV_aload (hd : mLdA j pc i q) (hv : L[i]? = some (.ref a)) (k : mV X j d bc bs q L (.ref a :: st) n K I P Q) : mV X j d bc bs pc L st n K I P Q := by
  intro b D cI cS aK aV p l e R s m args below meth c H locs cells slots Tc Ts ls hC hR hS hL t1 t2 t3 t4
  have k := k b D cI cS aK aV p l e R s m args below meth c H locs cells slots Tc Ts ls hC hR hS hL t1 t2 t3 t4
  have hg := hL.at hv (fun h => by cases h)
  rcases hd with ⟨kf, ⟨h1, rfl⟩, h2⟩ | ⟨h1, rfl⟩
  · exact lv_aload_n hC.1 hC.2.1 h1 h2 hg k
  · exact lv_aload hC.1 hC.2.1 h1 hg k
theorem mV_aloadN (hd : mLdA j pc i q) (hv : L[i]? = some (.null)) (k : mV X j d bc bs q L (.null :: st) n K I P Q) : mV X j d bc bs pc L st n K I P Q := by
  intro b D cI cS aK aV p l e R s m args below meth c H locs cells slots Tc Ts ls hC hR hS hL t1 t2 t3 t4
  have k := k b D cI cS aK aV p l e R s m args below meth c H locs cells slots Tc Ts ls hC hR hS hL t1 t2 t3 t4
  have hg := hL.at hv (fun h => by cases h)
  rcases hd with ⟨kf, ⟨h1, rfl⟩, h2⟩ | ⟨h1, rfl⟩
  · exact lv_aload_nN hC.1 hC.2.1 h1 h2 hg k
  · exact lv_aloadN hC.1 hC.2.1 h1 hg k
theorem mV_aloadS (hd : mLdA j pc i q) (hv : L[i]? = some (.retAddr a)) (k : mV X j d bc bs q L (.retAddr a :: st) n K I P Q) : mV X j d bc bs pc L st n K I P Q := by
  intro b D cI cS aK aV p l e R s m args below meth c H locs cells slots Tc Ts ls hC hR hS hL t1 t2 t3 t4
  have k := k b D cI cS aK aV p l e R s m args below meth c H locs cells slots Tc Ts ls hC hR hS hL t1 t2 t3 t4
  have hg := hL.at hv (fun h => by cases h)
  rcases hd with ⟨kf, ⟨h1, rfl⟩, h2⟩ | ⟨h1, rfl⟩
  · exact lv_aload_n hC.1 hC.2.1 h1 h2 hg k
  · exact lv_aload hC.1 hC.2.1 h1 hg k
theorem mV_istore (hd : mStI j pc i q) (hi : i < j.2.2.1) (ho : mOk L i = true) (hl : (L.set i (.int x)) = L') (k : mV X j d bc bs q L' st n K I P Q) : mV X j d bc bs pc L (.int x :: st) n K I P Q := by
  intro b D cI cS aK aV p l e R s m args below meth c H locs cells slots Tc Ts ls hC hR hS hL t1 t2 t3 t4
  subst hl
  rcases hd with ⟨kf, ⟨h1, rfl⟩, h2⟩ | ⟨h1, rfl⟩
  · exact lv_istore_n hC.1 hC.2.1 h1 h2 hL.lv hi rfl (fun ls' h => k b D cI cS aK aV p l e R s m args below meth c H locs cells slots Tc Ts ls' hC hR hS (mLoc.set1 (b := b) (aK := aK) (v := .int x) ho h) t1 t2 t3 t4)
  · exact lv_istore hC.1 hC.2.1 h1 hL.lv hi rfl (fun ls' h => k b D cI cS aK aV p l e R s m args below meth c H locs cells slots Tc Ts ls' hC hR hS (mLoc.set1 (b := b) (aK := aK) (v := .int x) ho h) t1 t2 t3 t4)
theorem mV_astore (hd : mStA j pc i q) (hi : i < j.2.2.1) (ho : mOk L i = true) (hl : (L.set i (.ref a)) = L') (k : mV X j d bc bs q L' st n K I P Q) : mV X j d bc bs pc L (.ref a :: st) n K I P Q := by
  intro b D cI cS aK aV p l e R s m args below meth c H locs cells slots Tc Ts ls hC hR hS hL t1 t2 t3 t4
  subst hl
  rcases hd with ⟨kf, ⟨h1, rfl⟩, h2⟩ | ⟨h1, rfl⟩
  · exact lv_astore_n hC.1 hC.2.1 h1 h2 hL.lv hi rfl (fun ls' h => k b D cI cS aK aV p l e R s m args below meth c H locs cells slots Tc Ts ls' hC hR hS (mLoc.set1 (b := b) (aK := aK) (v := .ref a) ho h) t1 t2 t3 t4)
  · exact lv_astore hC.1 hC.2.1 h1 hL.lv hi rfl (fun ls' h => k b D cI cS aK aV p l e R s m args below meth c H locs cells slots Tc Ts ls' hC hR hS (mLoc.set1 (b := b) (aK := aK) (v := .ref a) ho h) t1 t2 t3 t4)
theorem mV_lstore (hd : mStL j pc i q) (hi : i + 1 < j.2.2.1) (ho : mOk L i = true) (hl : ((L.set i (.long z)).set (i + 1) mX0) = L') (k : mV X j d bc bs q L' st n K I P Q) : mV X j d bc bs pc L (.long z :: st) n K I P Q := by
  intro b D cI cS aK aV p l e R s m args below meth c H locs cells slots Tc Ts ls hC hR hS hL t1 t2 t3 t4
  subst hl
  rcases hd with ⟨kf, ⟨h1, rfl⟩, h2⟩ | ⟨h1, rfl⟩
  · exact lv_lstore_n hC.1 hC.2.1 h1 h2 hL.lv hi rfl (fun ls' h => k b D cI cS aK aV p l e R s m args below meth c H locs cells slots Tc Ts ls' hC hR hS (mLoc.set2 (b := b) (aK := aK) (v := .long z) ho h) t1 t2 t3 t4)
  · exact lv_lstore hC.1 hC.2.1 h1 hL.lv hi rfl (fun ls' h => k b D cI cS aK aV p l e R s m args below meth c H locs cells slots Tc Ts ls' hC hR hS (mLoc.set2 (b := b) (aK := aK) (v := .long z) ho h) t1 t2 t3 t4)
theorem mV_iinc {z : Int} (hd : mD j pc (.iinc i z) 3 q) (hv : L[i]? = some (.int x)) (hx : x + Int32.ofInt z = y) (hi : i < j.2.2.1) (ho : mOk L i = true) (hl : L.set i (.int y) = L') (k : mV X j d bc bs q L' st n K I P Q) : mV X j d bc bs pc L st n K I P Q := by
  intro b D cI cS aK aV p l e R s m args below meth c H locs cells slots Tc Ts ls hC hR hS hL t1 t2 t3 t4
  subst hl
  obtain ⟨h1, rfl⟩ := hd
  obtain ⟨p0, hp0⟩ := List.getElem?_of_mem (mLl_mem (b := b) (aK := aK) (L := L) (q := (i, .int x)) |>.mpr ⟨.int x, hv, (fun h => by cases h), rfl⟩)
  exact lv_iinc hC.1 hC.2.1 h1 hL.lv hp0 hx hi rfl (fun ls' h => k b D cI cS aK aV p l e R s m args below meth c H locs cells slots Tc Ts ls' hC hR hS (mLoc.set1 (b := b) (aK := aK) (v := .int y) ho h) t1 t2 t3 t4)
theorem mV_icmp_eq (hd : mBr j pc .eq q t) (kt : x = y → mV X j d bc bs t L st n K I P Q) (kf : ¬ x = y → mV X j d bc bs q L st n K I P Q) : mV X j d bc bs pc L (.int y :: .int x :: st) n K I P Q := by
  intro b D cI cS aK aV p l e R s m args below meth c H locs cells slots Tc Ts ls hC hR hS hL t1 t2 t3 t4
  obtain ⟨off, ⟨h1, rfl⟩, h2⟩ := hd
  exact lv_icmp_eq hC.1 hC.2.1 h1 h2 (fun h => kt h b D cI cS aK aV p l e R s m args below meth c H locs cells slots Tc Ts ls hC hR hS hL t1 t2 t3 t4) (fun h => kf h b D cI cS aK aV p l e R s m args below meth c H locs cells slots Tc Ts ls hC hR hS hL t1 t2 t3 t4)
theorem mV_icmp_ne (hd : mBr j pc .ne q t) (kt : ¬ x = y → mV X j d bc bs t L st n K I P Q) (kf : x = y → mV X j d bc bs q L st n K I P Q) : mV X j d bc bs pc L (.int y :: .int x :: st) n K I P Q := by
  intro b D cI cS aK aV p l e R s m args below meth c H locs cells slots Tc Ts ls hC hR hS hL t1 t2 t3 t4
  obtain ⟨off, ⟨h1, rfl⟩, h2⟩ := hd
  exact lv_icmp_ne hC.1 hC.2.1 h1 h2 (fun h => kt h b D cI cS aK aV p l e R s m args below meth c H locs cells slots Tc Ts ls hC hR hS hL t1 t2 t3 t4) (fun h => kf h b D cI cS aK aV p l e R s m args below meth c H locs cells slots Tc Ts ls hC hR hS hL t1 t2 t3 t4)
theorem mV_icmp_lt (hd : mBr j pc .lt q t) (kt : x < y → mV X j d bc bs t L st n K I P Q) (kf : ¬ x < y → mV X j d bc bs q L st n K I P Q) : mV X j d bc bs pc L (.int y :: .int x :: st) n K I P Q := by
  intro b D cI cS aK aV p l e R s m args below meth c H locs cells slots Tc Ts ls hC hR hS hL t1 t2 t3 t4
  obtain ⟨off, ⟨h1, rfl⟩, h2⟩ := hd
  exact lv_icmp_lt hC.1 hC.2.1 h1 h2 (fun h => kt h b D cI cS aK aV p l e R s m args below meth c H locs cells slots Tc Ts ls hC hR hS hL t1 t2 t3 t4) (fun h => kf h b D cI cS aK aV p l e R s m args below meth c H locs cells slots Tc Ts ls hC hR hS hL t1 t2 t3 t4)
theorem mV_icmp_ge (hd : mBr j pc .ge q t) (kt : y ≤ x → mV X j d bc bs t L st n K I P Q) (kf : ¬ y ≤ x → mV X j d bc bs q L st n K I P Q) : mV X j d bc bs pc L (.int y :: .int x :: st) n K I P Q := by
  intro b D cI cS aK aV p l e R s m args below meth c H locs cells slots Tc Ts ls hC hR hS hL t1 t2 t3 t4
  obtain ⟨off, ⟨h1, rfl⟩, h2⟩ := hd
  exact lv_icmp_ge hC.1 hC.2.1 h1 h2 (fun h => kt h b D cI cS aK aV p l e R s m args below meth c H locs cells slots Tc Ts ls hC hR hS hL t1 t2 t3 t4) (fun h => kf h b D cI cS aK aV p l e R s m args below meth c H locs cells slots Tc Ts ls hC hR hS hL t1 t2 t3 t4)
theorem mV_icmp_gt (hd : mBr j pc .gt q t) (kt : y < x → mV X j d bc bs t L st n K I P Q) (kf : ¬ y < x → mV X j d bc bs q L st n K I P Q) : mV X j d bc bs pc L (.int y :: .int x :: st) n K I P Q := by
  intro b D cI cS aK aV p l e R s m args below meth c H locs cells slots Tc Ts ls hC hR hS hL t1 t2 t3 t4
  obtain ⟨off, ⟨h1, rfl⟩, h2⟩ := hd
  exact lv_icmp_gt hC.1 hC.2.1 h1 h2 (fun h => kt h b D cI cS aK aV p l e R s m args below meth c H locs cells slots Tc Ts ls hC hR hS hL t1 t2 t3 t4) (fun h => kf h b D cI cS aK aV p l e R s m args below meth c H locs cells slots Tc Ts ls hC hR hS hL t1 t2 t3 t4)
theorem mV_icmp_le (hd : mBr j pc .le q t) (kt : x ≤ y → mV X j d bc bs t L st n K I P Q) (kf : ¬ x ≤ y → mV X j d bc bs q L st n K I P Q) : mV X j d bc bs pc L (.int y :: .int x :: st) n K I P Q := by
  intro b D cI cS aK aV p l e R s m args below meth c H locs cells slots Tc Ts ls hC hR hS hL t1 t2 t3 t4
  obtain ⟨off, ⟨h1, rfl⟩, h2⟩ := hd
  exact lv_icmp_le hC.1 hC.2.1 h1 h2 (fun h => kt h b D cI cS aK aV p l e R s m args below meth c H locs cells slots Tc Ts ls hC hR hS hL t1 t2 t3 t4) (fun h => kf h b D cI cS aK aV p l e R s m args below meth c H locs cells slots Tc Ts ls hC hR hS hL t1 t2 t3 t4)
theorem mV_if_eq (hd : mBz j pc .eq q t) (kt : x = 0 → mV X j d bc bs t L st n K I P Q) (kf : ¬ x = 0 → mV X j d bc bs q L st n K I P Q) : mV X j d bc bs pc L (.int x :: st) n K I P Q := by
  intro b D cI cS aK aV p l e R s m args below meth c H locs cells slots Tc Ts ls hC hR hS hL t1 t2 t3 t4
  obtain ⟨off, ⟨h1, rfl⟩, h2⟩ := hd
  exact lv_if_eq hC.1 hC.2.1 h1 h2 (fun h => kt h b D cI cS aK aV p l e R s m args below meth c H locs cells slots Tc Ts ls hC hR hS hL t1 t2 t3 t4) (fun h => kf h b D cI cS aK aV p l e R s m args below meth c H locs cells slots Tc Ts ls hC hR hS hL t1 t2 t3 t4)
theorem mV_if_ne (hd : mBz j pc .ne q t) (kt : ¬ x = 0 → mV X j d bc bs t L st n K I P Q) (kf : x = 0 → mV X j d bc bs q L st n K I P Q) : mV X j d bc bs pc L (.int x :: st) n K I P Q := by
  intro b D cI cS aK aV p l e R s m args below meth c H locs cells slots Tc Ts ls hC hR hS hL t1 t2 t3 t4
  obtain ⟨off, ⟨h1, rfl⟩, h2⟩ := hd
  exact lv_if_ne hC.1 hC.2.1 h1 h2 (fun h => kt h b D cI cS aK aV p l e R s m args below meth c H locs cells slots Tc Ts ls hC hR hS hL t1 t2 t3 t4) (fun h => kf h b D cI cS aK aV p l e R s m args below meth c H locs cells slots Tc Ts ls hC hR hS hL t1 t2 t3 t4)
theorem mV_if_lt (hd : mBz j pc .lt q t) (kt : x < 0 → mV X j d bc bs t L st n K I P Q) (kf : ¬ x < 0 → mV X j d bc bs q L st n K I P Q) : mV X j d bc bs pc L (.int x :: st) n K I P Q := by
  intro b D cI cS aK aV p l e R s m args below meth c H locs cells slots Tc Ts ls hC hR hS hL t1 t2 t3 t4
  obtain ⟨off, ⟨h1, rfl⟩, h2⟩ := hd
  exact lv_if_lt hC.1 hC.2.1 h1 h2 (fun h => kt h b D cI cS aK aV p l e R s m args below meth c H locs cells slots Tc Ts ls hC hR hS hL t1 t2 t3 t4) (fun h => kf h b D cI cS aK aV p l e R s m args below meth c H locs cells slots Tc Ts ls hC hR hS hL t1 t2 t3 t4)
theorem mV_if_ge (hd : mBz j pc .ge q t) (kt : 0 ≤ x → mV X j d bc bs t L st n K I P Q) (kf : ¬ 0 ≤ x → mV X j d bc bs q L st n K I P Q) : mV X j d bc bs pc L (.int x :: st) n K I P Q := by
  intro b D cI cS aK aV p l e R s m args below meth c H locs cells slots Tc Ts ls hC hR hS hL t1 t2 t3 t4
  obtain ⟨off, ⟨h1, rfl⟩, h2⟩ := hd
  exact lv_if_ge hC.1 hC.2.1 h1 h2 (fun h => kt h b D cI cS aK aV p l e R s m args below meth c H locs cells slots Tc Ts ls hC hR hS hL t1 t2 t3 t4) (fun h => kf h b D cI cS aK aV p l e R s m args below meth c H locs cells slots Tc Ts ls hC hR hS hL t1 t2 t3 t4)
theorem mV_if_gt (hd : mBz j pc .gt q t) (kt : 0 < x → mV X j d bc bs t L st n K I P Q) (kf : ¬ 0 < x → mV X j d bc bs q L st n K I P Q) : mV X j d bc bs pc L (.int x :: st) n K I P Q := by
  intro b D cI cS aK aV p l e R s m args below meth c H locs cells slots Tc Ts ls hC hR hS hL t1 t2 t3 t4
  obtain ⟨off, ⟨h1, rfl⟩, h2⟩ := hd
  exact lv_if_gt hC.1 hC.2.1 h1 h2 (fun h => kt h b D cI cS aK aV p l e R s m args below meth c H locs cells slots Tc Ts ls hC hR hS hL t1 t2 t3 t4) (fun h => kf h b D cI cS aK aV p l e R s m args below meth c H locs cells slots Tc Ts ls hC hR hS hL t1 t2 t3 t4)
theorem mV_if_le (hd : mBz j pc .le q t) (kt : x ≤ 0 → mV X j d bc bs t L st n K I P Q) (kf : ¬ x ≤ 0 → mV X j d bc bs q L st n K I P Q) : mV X j d bc bs pc L (.int x :: st) n K I P Q := by
  intro b D cI cS aK aV p l e R s m args below meth c H locs cells slots Tc Ts ls hC hR hS hL t1 t2 t3 t4
  obtain ⟨off, ⟨h1, rfl⟩, h2⟩ := hd
  exact lv_if_le hC.1 hC.2.1 h1 h2 (fun h => kt h b D cI cS aK aV p l e R s m args below meth c H locs cells slots Tc Ts ls hC hR hS hL t1 t2 t3 t4) (fun h => kf h b D cI cS aK aV p l e R s m args below meth c H locs cells slots Tc Ts ls hC hR hS hL t1 t2 t3 t4)
theorem mV_goto (hd : mGo j pc t) (k : mV X j d bc bs t L st n K I P Q) : mV X j d bc bs pc L st n K I P Q := by
  intro b D cI cS aK aV p l e R s m args below meth c H locs cells slots Tc Ts ls hC hR hS hL t1 t2 t3 t4
  obtain ⟨off, h1, h2⟩ := hd
  exact lv_goto hC.1 hC.2.1 h1 h2 (k b D cI cS aK aV p l e R s m args below meth c H locs cells slots Tc Ts ls hC hR hS hL t1 t2 t3 t4)
theorem mV_ifnull (hd : mBn j pc q t) (k : mV X j d bc bs q L st n K I P Q) : mV X j d bc bs pc L (.ref a :: st) n K I P Q := by
  intro b D cI cS aK aV p l e R s m args below meth c H locs cells slots Tc Ts ls hC hR hS hL t1 t2 t3 t4
  obtain ⟨off, ⟨h1, rfl⟩, h2⟩ := hd
  exact lv_ifnull hC.1 hC.2.1 h1 (k b D cI cS aK aV p l e R s m args below meth c H locs cells slots Tc Ts ls hC hR hS hL t1 t2 t3 t4)
theorem mV_ifnullN (hd : mBn j pc q t) (k : mV X j d bc bs t L st n K I P Q) : mV X j d bc bs pc L (.null :: st) n K I P Q := by
  intro b D cI cS aK aV p l e R s m args below meth c H locs cells slots Tc Ts ls hC hR hS hL t1 t2 t3 t4
  obtain ⟨off, ⟨h1, rfl⟩, h2⟩ := hd
  exact lv_ifnullN hC.1 hC.2.1 h1 h2 (k b D cI cS aK aV p l e R s m args below meth c H locs cells slots Tc Ts ls hC hR hS hL t1 t2 t3 t4)
theorem mV_ifnonnull (hd : mBm j pc q t) (k : mV X j d bc bs t L st n K I P Q) : mV X j d bc bs pc L (.ref a :: st) n K I P Q := by
  intro b D cI cS aK aV p l e R s m args below meth c H locs cells slots Tc Ts ls hC hR hS hL t1 t2 t3 t4
  obtain ⟨off, ⟨h1, rfl⟩, h2⟩ := hd
  exact lv_ifnonnull hC.1 hC.2.1 h1 h2 (k b D cI cS aK aV p l e R s m args below meth c H locs cells slots Tc Ts ls hC hR hS hL t1 t2 t3 t4)
theorem mV_tabIn {df lo hi : Int} {offs : Array Int} {len : Nat} {off : Int} (hd : decode j.2.1 pc = .ok (.tableswitch df lo hi offs, len)) (hx : ¬ x.toInt < lo) (hy : ¬ hi < x.toInt) (ho : offs[(x.toInt - lo).toNat]? = some off) (ht : (pc : Int) + off = (t : Int)) (k : mV X j d bc bs t L st n K I P Q) : mV X j d bc bs pc L (.int x :: st) n K I P Q := by
  intro b D cI cS aK aV p l e R s m args below meth c H locs cells slots Tc Ts ls hC hR hS hL t1 t2 t3 t4
  exact lv_tableIn hC.1 hC.2.1 hd hx hy ho ht (k b D cI cS aK aV p l e R s m args below meth c H locs cells slots Tc Ts ls hC hR hS hL t1 t2 t3 t4)
theorem mV_tabOut {df lo hi : Int} {offs : Array Int} {len : Nat} (hd : decode j.2.1 pc = .ok (.tableswitch df lo hi offs, len)) (hx : x.toInt < lo ∨ hi < x.toInt) (ht : (pc : Int) + df = (t : Int)) (k : mV X j d bc bs t L st n K I P Q) : mV X j d bc bs pc L (.int x :: st) n K I P Q := by
  intro b D cI cS aK aV p l e R s m args below meth c H locs cells slots Tc Ts ls hC hR hS hL t1 t2 t3 t4
  exact lv_tableOut hC.1 hC.2.1 hd hx ht (k b D cI cS aK aV p l e R s m args below meth c H locs cells slots Tc Ts ls hC hR hS hL t1 t2 t3 t4)
theorem mV_look {df : Int} {ps : Array (Int × Int)} {len : Nat} {off : Int} (hd : decode j.2.1 pc = .ok (.lookupswitch df ps, len)) (hp : (ps.toList.zip (ps.toList.drop 1)).all (fun (a, next) => a.1 < next.1) = true) (ho : Op.lookupswitch.offset ps.toList df x.toInt = off) (ht : (pc : Int) + off = (t : Int)) (k : mV X j d bc bs t L st n K I P Q) : mV X j d bc bs pc L (.int x :: st) n K I P Q := by
  intro b D cI cS aK aV p l e R s m args below meth c H locs cells slots Tc Ts ls hC hR hS hL t1 t2 t3 t4
  exact lv_lookup hC.1 hC.2.1 hd hp ho ht (k b D cI cS aK aV p l e R s m args below meth c H locs cells slots Tc Ts ls hC hR hS hL t1 t2 t3 t4)
theorem mV_iret {ty : FieldType} (hty : j.2.2.2 = some ty) (hn : narrow ty (.int x) = .int x) (hd : mD j pc .ireturn 1 q) (hq : Q (some (.int x)) n K I P) : mV X j d bc bs pc L [.int x] n K I P Q := by
  intro b D cI cS aK aV p l e R s m args below meth c H locs cells slots Tc Ts ls hC hR hS hL t1 t2 t3 t4
  obtain ⟨hx, hb, hr, hml, hown, hlocks, -⟩ := hC
  refine W.widen (k := Tc) (n := Ts) (by omega) (by omega) ?_
  exact W.zret (v := x) hx hb (hr.trans hty) hn (fun t ht hW => ⟨⟨some (.int x), n, K, I, P, rfl, hq, by rw [ht]; exact hR⟩, hS.F ht⟩) hS.2.2 hd.1
theorem mV_lret (hty : j.2.2.2 = some .long) (hd : mD j pc .lreturn 1 q) (hq : Q (some (.long z)) n K I P) : mV X j d bc bs pc L [.long z] n K I P Q := by
  intro b D cI cS aK aV p l e R s m args below meth c H locs cells slots Tc Ts ls hC hR hS hL t1 t2 t3 t4
  obtain ⟨hx, hb, hr, hml, hown, hlocks, -⟩ := hC
  refine W.widen (k := Tc) (n := Ts) (by omega) (by omega) ?_
  exact W.lret (v := z) hx hb (hr.trans hty) (fun t ht hW => ⟨⟨some (.long z), n, K, I, P, rfl, hq, by rw [ht]; exact hR⟩, hS.F ht⟩) hS.2.2 hd.1
theorem mV_vret (hty : j.2.2.2 = none) (hd : mD j pc .return_ 1 q) (hq : Q none n K I P) : mV X j d bc bs pc L [] n K I P Q := by
  intro b D cI cS aK aV p l e R s m args below meth c H locs cells slots Tc Ts ls hC hR hS hL t1 t2 t3 t4
  obtain ⟨hx, hb, hr, hml, hown, hlocks, -⟩ := hC
  refine W.widen (k := Tc) (n := Ts) (by omega) (by omega) ?_
  exact W.vret hx hb (hr.trans hty) (fun t ht hW => ⟨⟨none, n, K, I, P, rfl, hq, by rw [ht]; exact hR⟩, hS.F ht⟩) hS.2.2 hd.1
theorem mV_aret {C : String} (hty : j.2.2.2 = some (.object C)) (hd : mD j pc .areturn 1 q) (hq : Q (some (.ref a)) n K I P) : mV X j d bc bs pc L [.ref a] n K I P Q := by
  intro b D cI cS aK aV p l e R s m args below meth c H locs cells slots Tc Ts ls hC hR hS hL t1 t2 t3 t4
  obtain ⟨hx, hb, hr, hml, hown, hlocks, -⟩ := hC
  refine W.widen (k := Tc) (n := Ts) (by omega) (by omega) ?_
  exact W.aret (v := .ref (b + a)) hx hb (hr.trans hty) (Or.inl ⟨_, rfl⟩) (Or.inr ⟨_, rfl⟩) (fun t ht hW => ⟨⟨some (.ref a), n, K, I, P, rfl, hq, by rw [ht]; exact hR⟩, hS.F ht⟩) hS.2.2 hd.1
theorem mV_aretN {C : String} (hty : j.2.2.2 = some (.object C)) (hd : mD j pc .areturn 1 q) (hq : Q (some .null) n K I P) : mV X j d bc bs pc L [.null] n K I P Q := by
  intro b D cI cS aK aV p l e R s m args below meth c H locs cells slots Tc Ts ls hC hR hS hL t1 t2 t3 t4
  obtain ⟨hx, hb, hr, hml, hown, hlocks, -⟩ := hC
  refine W.widen (k := Tc) (n := Ts) (by omega) (by omega) ?_
  exact W.aret (v := .null) hx hb (hr.trans hty) (Or.inl ⟨_, rfl⟩) (Or.inl rfl) (fun t ht hW => ⟨⟨some .null, n, K, I, P, rfl, hq, by rw [ht]; exact hR⟩, hS.F ht⟩) hS.2.2 hd.1
end MVR

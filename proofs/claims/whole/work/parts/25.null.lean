theorem mV_astoreN {X : Nat × (Nat → Int32)} {j : mMeth} {d bc bs pc q i : Nat} {L L' st : List Value} {n : Nat} {K : mK} {I : mI} {P : mP} {Q : mQ} (hd : mStA j pc i q) (hi : i < j.2.2.1) (ho : mOk L i = true) (hl : (L.set i (.null)) = L') (k : mV X j d bc bs q L' st n K I P Q) : mV X j d bc bs pc L (.null :: st) n K I P Q := by
  intro b D cI cS aK aV p l e R s m args below meth c H locs cells slots Tc Ts ls hC hR hS hL t1 t2 t3 t4
  subst hl
  rcases hd with ⟨kf, ⟨h1, rfl⟩, h2⟩ | ⟨h1, rfl⟩
  · exact lv_astore_nN hC.1 hC.2.1 h1 h2 hL.lv hi rfl (fun ls' h => k b D cI cS aK aV p l e R s m args below meth c H locs cells slots Tc Ts ls' hC hR hS (mLoc.set1 (b := b) (aK := aK) (v := .null) ho h) t1 t2 t3 t4)
  · exact lv_astoreN hC.1 hC.2.1 h1 hL.lv hi rfl (fun ls' h => k b D cI cS aK aV p l e R s m args below meth c H locs cells slots Tc Ts ls' hC hR hS (mLoc.set1 (b := b) (aK := aK) (v := .null) ho h) t1 t2 t3 t4)
theorem mV_ifnonnullN {X : Nat × (Nat → Int32)} {j : mMeth} {d bc bs pc q t : Nat} {L st : List Value} {n : Nat} {K : mK} {I : mI} {P : mP} {Q : mQ} (hd : mBm j pc q t) (k : mV X j d bc bs q L st n K I P Q) : mV X j d bc bs pc L (.null :: st) n K I P Q := by
  intro b D cI cS aK aV p l e R s m args below meth c H locs cells slots Tc Ts ls hC hR hS hL t1 t2 t3 t4
  obtain ⟨off, ⟨h1, rfl⟩, h2⟩ := hd
  exact lv_ifnonnullN hC.1 hC.2.1 h1 (k b D cI cS aK aV p l e R s m args below meth c H locs cells slots Tc Ts ls hC hR hS hL t1 t2 t3 t4)
theorem fmJ1_indexOf_11 : mMath mJ1_indexOf 11 Lib.Math.max.name Lib.Math.max.code 2 14 := ⟨92, ⟨by decide +kernel, rfl⟩, mlJ1_92, mt_max_s, izJ9, mt_max_c⟩
theorem fmJ1_indexOf_18 : mMath mJ1_indexOf 18 Lib.Math.min.name Lib.Math.min.code 2 21 := ⟨38, ⟨by decide +kernel, rfl⟩, mlJ1_38, mt_min_s, izJ9, mt_min_c⟩

def lL_law (X : Nat × (Nat → Int32)) : Nat → Int32 → Nat → mI → Option Int32
  | 0, _, _, _ => none
  | f + 1, y3, s, I => if ((Int32.ofNat X.1 - 6) : Int32) < (y3 : Int32) then some 1 else (mScr X y3).bind fun z0 => if ((z0 &&& 63) : Int32) = 0 then (mScr X (y3 + 1)).bind fun z1 => (r9_state I z1).bind fun z2 => (mScr X (y3 + 1)).bind fun z3 => (r10_state z2.2 z3).bind fun z4 => if (z2.1 : Int32) = (z4.1 : Int32) then (mStO s).bind fun z5 => lL_law X f (y3 + 6) s z4.2 else some 0 else if ((z0 &&& 63) : Int32) = 1 then (mScr X (y3 + 1)).bind fun z6 => (mScr X (y3 + 2)).bind fun z7 => (mScr X (y3 + 3)).bind fun z8 => (r9_piece I z6 z7 z8).bind fun z9 => (mScr X (y3 + 1)).bind fun z10 => (mScr X (y3 + 2)).bind fun z11 => (mScr X (y3 + 3)).bind fun z12 => (r10_piece z9.2 z10 z11 z12).bind fun z13 => if (z9.1 : Int32) = (z13.1 : Int32) then (mStO s).bind fun z14 => lL_law X f (y3 + 6) s z13.2 else some 0 else if ((z0 &&& 63) : Int32) = 2 then (mScr X (y3 + 1)).bind fun z15 => (mScr X (y3 + 2)).bind fun z16 => (r9_player I z15 z16).bind fun z17 => (mScr X (y3 + 1)).bind fun z18 => (mScr X (y3 + 2)).bind fun z19 => (r10_player z17.2 z18 z19).bind fun z20 => if (z17.1 : Int32) = (z20.1 : Int32) then (mStO s).bind fun z21 => lL_law X f (y3 + 6) s z20.2 else some 0 else if ((z0 &&& 63) : Int32) = 3 then (mScr X (y3 + 1)).bind fun z22 => (mScr X (y3 + 2)).bind fun z23 => (mScr X (y3 + 3)).bind fun z24 => (r9_set I z22 z23 z24).bind fun z25 => (mScr X (y3 + 1)).bind fun z26 => (mScr X (y3 + 2)).bind fun z27 => (mScr X (y3 + 3)).bind fun z28 => (r10_set z25.2 z26 z27 z28).bind fun z29 => if (z25.1 : Int32) = (z29.1 : Int32) then (mStO s).bind fun z30 => lL_law X f (y3 + 6) s z29.2 else some 0 else if ((z0 &&& 63) : Int32) = 4 then (mScr X (y3 + 1)).bind fun z31 => (mScr X (y3 + 2)).bind fun z32 => (r9_play I s z31 z32).bind fun z33 => (mScr X (y3 + 1)).bind fun z34 => (mScr X (y3 + 2)).bind fun z35 => (r10_play z33.2.1 z34 z35).bind fun z36 => if (z33.1 : Int32) = (z36.1 : Int32) then (mStO z33.2.2).bind fun z37 => lL_law X f (y3 + 6) z33.2.2 z36.2 else some 0 else if ((z0 &&& 63) : Int32) = 5 then (mScr X (y3 + 1)).bind fun z38 => (mScr X (y3 + 2)).bind fun z39 => (r9_act I s z38 z39).bind fun z40 => (mScr X (y3 + 1)).bind fun z41 => (mScr X (y3 + 2)).bind fun z42 => (r10_act z40.2.1 z41 z42).bind fun z43 => if (z40.1 : Int32) = (z43.1 : Int32) then (mStO z40.2.2).bind fun z44 => lL_law X f (y3 + 6) z40.2.2 z43.2 else some 0 else if ((z0 &&& 63) : Int32) = 6 then (mScr X (y3 + 1)).bind fun z45 => (r9_days I s z45).bind fun z46 => (mScr X (y3 + 1)).bind fun z47 => (r10_days z46.2.1 z47).bind fun z48 => if (z46.1 : Int32) = (z48.1 : Int32) then (mStO z46.2.2).bind fun z49 => lL_law X f (y3 + 6) z46.2.2 z48.2 else some 0 else if ((z0 &&& 63) : Int32) = 7 then (mScr X (y3 + 1)).bind fun z50 => (mScr X (y3 + 2)).bind fun z51 => (mScr X (y3 + 3)).bind fun z52 => (mScr X (y3 + 4)).bind fun z53 => (mScr X (y3 + 5)).bind fun z54 => (r9_feed I z50 z51 z52 z53 z54).bind fun z55 => (mScr X (y3 + 1)).bind fun z56 => (mScr X (y3 + 2)).bind fun z57 => (mScr X (y3 + 3)).bind fun z58 => (mScr X (y3 + 4)).bind fun z59 => (mScr X (y3 + 5)).bind fun z60 => (r10_feed z55.2 z56 z57 z58 z59 z60).bind fun z61 => if (z55.1 : Int32) = (z61.1 : Int32) then (mStO s).bind fun z62 => lL_law X f (y3 + 6) s z61.2 else some 0 else if ((z0 &&& 63) : Int32) = 8 then (mScr X (y3 + 1)).bind fun z63 => (r9_end I z63).bind fun z64 => (mScr X (y3 + 1)).bind fun z65 => (r10_end z64.2 z65).bind fun z66 => if (z64.1 : Int32) = (z66.1 : Int32) then (mStO s).bind fun z67 => lL_law X f (y3 + 6) s z66.2 else some 0 else if ((z0 &&& 63) : Int32) = 9 then (mScr X (y3 + 1)).bind fun z68 => (r9_text I z68).bind fun z69 => (mScr X (y3 + 1)).bind fun z70 => (r10_text z69.2 z70).bind fun z71 => if (z69.1 : Int32) = (z71.1 : Int32) then (mStO s).bind fun z72 => lL_law X f (y3 + 6) s z71.2 else some 0 else if ((z0 &&& 63) : Int32) = 10 then (mScr X (y3 + 1)).bind fun z73 => (mScr X (y3 + 1)).bind fun z74 => (r10_fault I z74).bind fun z75 => if ((r9_fault I z73) : Int32) = (z75.1 : Int32) then (mStO s).bind fun z76 => lL_law X f (y3 + 6) s z75.2 else some 0 else if ((z0 &&& 63) : Int32) = 11 then (mScr X (y3 + 1)).bind fun z77 => (mScr X (y3 + 2)).bind fun z78 => (r9_of I s z77 z78).bind fun z79 => (mScr X (y3 + 1)).bind fun z80 => (mScr X (y3 + 2)).bind fun z81 => (r10_of z79.2.1 z80 z81).bind fun z82 => if (z79.1 : Int32) = (z82.1 : Int32) then (mStO z79.2.2).bind fun z83 => lL_law X f (y3 + 6) z79.2.2 z82.2 else some 0 else if ((z0 &&& 63) : Int32) = 12 then (mScr X (y3 + 1)).bind fun z84 => (mScr X (y3 + 2)).bind fun z85 => (r9_who I z84 z85).bind fun z86 => (mScr X (y3 + 1)).bind fun z87 => (mScr X (y3 + 2)).bind fun z88 => (r10_who I z87 z88).bind fun z89 => if (z86 : Int32) = (z89.1 : Int32) then (mStO s).bind fun z90 => lL_law X f (y3 + 6) s z89.2 else some 0 else if ((z0 &&& 63) : Int32) = 13 then (mScr X (y3 + 1)).bind fun z91 => (mScr X (y3 + 2)).bind fun z92 => (r9_string I z91 z92).bind fun z93 => (mScr X (y3 + 1)).bind fun z94 => (mScr X (y3 + 2)).bind fun z95 => (r10_string I z94 z95).bind fun z96 => if (z93 : Int32) = (z96.1 : Int32) then (mStO s).bind fun z97 => lL_law X f (y3 + 6) s z96.2 else some 0 else if ((z0 &&& 63) : Int32) = 14 then (mScr X (y3 + 1)).bind fun z98 => (mScr X (y3 + 2)).bind fun z99 => (mScr X (y3 + 3)).bind fun z100 => (r9_damps I s z98 z99 z100).bind fun z101 => (mScr X (y3 + 1)).bind fun z102 => (mScr X (y3 + 2)).bind fun z103 => (mScr X (y3 + 3)).bind fun z104 => (r10_damps z101.2.1 z102 z103 z104).bind fun z105 => if (z101.1 : Int32) = (z105.1 : Int32) then (mStO z101.2.2).bind fun z106 => lL_law X f (y3 + 6) z101.2.2 z105.2 else some 0 else if ((z0 &&& 63) : Int32) = 15 then (mScr X (y3 + 1)).bind fun z107 => (mScr X (y3 + 2)).bind fun z108 => (r9_settles I s z107 z108).bind fun z109 => (mScr X (y3 + 1)).bind fun z110 => (mScr X (y3 + 2)).bind fun z111 => (r10_settles1 z109.2.1 z110 z111).bind fun z112 => if (z109.1 : Int32) = (z112.1 : Int32) then (mStO z109.2.2).bind fun z113 => lL_law X f (y3 + 6) z109.2.2 z112.2 else some 0 else if ((z0 &&& 63) : Int32) = 16 then (mScr X (y3 + 1)).bind fun z114 => (mScr X (y3 + 2)).bind fun z115 => (r9_book I z114 z115).bind fun z116 => (mScr X (y3 + 1)).bind fun z117 => (mScr X (y3 + 2)).bind fun z118 => (r10_book I z117 z118).bind fun z119 => if (z116 : Int32) = (z119.1 : Int32) then (mStO s).bind fun z120 => lL_law X f (y3 + 6) s z119.2 else some 0 else if ((z0 &&& 63) : Int32) = 17 then (mScr X (y3 + 1)).bind fun z121 => (mScr X (y3 + 2)).bind fun z122 => (r9_goes I s z121 z122).bind fun z123 => (mScr X (y3 + 1)).bind fun z124 => (mScr X (y3 + 2)).bind fun z125 => (r10_goes z123.2.1 z124 z125).bind fun z126 => if (z123.1 : Int32) = (z126.1 : Int32) then (mStO z123.2.2).bind fun z127 => lL_law X f (y3 + 6) z123.2.2 z126.2 else some 0 else if ((z0 &&& 63) : Int32) = 18 then (mScr X (y3 + 1)).bind fun z128 => (mScr X (y3 + 2)).bind fun z129 => (mScr X (y3 + 3)).bind fun z130 => (r9_lasts I s z128 z129 z130).bind fun z131 => (mScr X (y3 + 1)).bind fun z132 => (mScr X (y3 + 2)).bind fun z133 => (mScr X (y3 + 3)).bind fun z134 => (r10_lasts z131.2.1 z132 z133 z134).bind fun z135 => if (z131.1 : Int32) = (z135.1 : Int32) then (mStO z131.2.2).bind fun z136 => lL_law X f (y3 + 6) z131.2.2 z135.2 else some 0 else if ((z0 &&& 63) : Int32) = 19 then (mScr X (y3 + 1)).bind fun z137 => (mScr X (y3 + 2)).bind fun z138 => (mScr X (y3 + 3)).bind fun z139 => (r9_chords z137 z138 z139).bind fun z140 => (mScr X (y3 + 1)).bind fun z141 => (mScr X (y3 + 2)).bind fun z142 => (mScr X (y3 + 3)).bind fun z143 => (r10_chords I z141 z142 z143).bind fun z144 => if (z140 : Int32) = (z144.1 : Int32) then (mStO s).bind fun z145 => lL_law X f (y3 + 6) s z144.2 else some 0 else if ((z0 &&& 63) : Int32) = 20 then (mScr X (y3 + 1)).bind fun z146 => (r9_tone I z146).bind fun z147 => (mScr X (y3 + 1)).bind fun z148 => (r10_tone z147.2 z148).bind fun z149 => if (z147.1 : Int32) = (z149.1 : Int32) then (mStO s).bind fun z150 => lL_law X f (y3 + 6) s z149.2 else some 0 else if ((z0 &&& 63) : Int32) = 21 then (mScr X (y3 + 1)).bind fun z151 => (r9_tune I z151).bind fun z152 => (mScr X (y3 + 1)).bind fun z153 => (r10_tune z152.2 z153).bind fun z154 => if (z152.1 : Int32) = (z154.1 : Int32) then (mStO s).bind fun z155 => lL_law X f (y3 + 6) s z154.2 else some 0 else if ((z0 &&& 63) : Int32) = 22 then (mScr X (y3 + 1)).bind fun z156 => (mScr X (y3 + 2)).bind fun z157 => (mScr X (y3 + 3)).bind fun z158 => (r9_canon I z156 z157 z158).bind fun z159 => (mScr X (y3 + 1)).bind fun z160 => (mScr X (y3 + 2)).bind fun z161 => (mScr X (y3 + 3)).bind fun z162 => (r10_canon I z160 z161 z162).bind fun z163 => if (z159 : Int32) = (z163.1 : Int32) then (mStO s).bind fun z164 => lL_law X f (y3 + 6) s z163.2 else some 0 else if ((z0 &&& 63) : Int32) = 23 then (mScr X (y3 + 1)).bind fun z165 => (mScr X (y3 + 2)).bind fun z166 => (mScr X (y3 + 3)).bind fun z167 => (r9_bar I z165 z166 z167).bind fun z168 => (mScr X (y3 + 1)).bind fun z169 => (mScr X (y3 + 2)).bind fun z170 => (mScr X (y3 + 3)).bind fun z171 => (r10_bar z168.2 z169 z170 z171).bind fun z172 => if (z168.1 : Int32) = (z172.1 : Int32) then (mStO s).bind fun z173 => lL_law X f (y3 + 6) s z172.2 else some 0 else if ((z0 &&& 63) : Int32) = 24 then (mScr X (y3 + 1)).bind fun z174 => (mScr X (y3 + 2)).bind fun z175 => (r9_period I z174 z175).bind fun z176 => (mScr X (y3 + 1)).bind fun z177 => (mScr X (y3 + 2)).bind fun z178 => (r10_period z176.2 z177 z178).bind fun z179 => if (z176.1 : Int32) = (z179.1 : Int32) then (mStO s).bind fun z180 => lL_law X f (y3 + 6) s z179.2 else some 0 else if ((z0 &&& 63) : Int32) = 25 then (mScr X (y3 + 1)).bind fun z181 => (mScr X (y3 + 2)).bind fun z182 => (r9_beats I z181 z182).bind fun z183 => (mScr X (y3 + 1)).bind fun z184 => (mScr X (y3 + 2)).bind fun z185 => (r10_beats I z184 z185).bind fun z186 => if (z183 : Int32) = (z186.1 : Int32) then (mStO s).bind fun z187 => lL_law X f (y3 + 6) s z186.2 else some 0 else if ((z0 &&& 63) : Int32) = 26 then (mScr X (y3 + 1)).bind fun z188 => (mScr X (y3 + 2)).bind fun z189 => (mScr X (y3 + 3)).bind fun z190 => (r9_pedal I z188 z189 z190).bind fun z191 => (mScr X (y3 + 1)).bind fun z192 => (mScr X (y3 + 2)).bind fun z193 => (mScr X (y3 + 3)).bind fun z194 => (r10_pedal z191.2 z192 z193 z194).bind fun z195 => if (z191.1 : Int32) = (z195.1 : Int32) then (mStO s).bind fun z196 => lL_law X f (y3 + 6) s z195.2 else some 0 else if ((z0 &&& 63) : Int32) = 27 then (mScr X (y3 + 1)).bind fun z197 => (r9_mud I z197).bind fun z198 => (mScr X (y3 + 1)).bind fun z199 => (r10_mud I z199).bind fun z200 => if (z198 : Int32) = (z200.1 : Int32) then (mStO s).bind fun z201 => lL_law X f (y3 + 6) s z200.2 else some 0 else if ((z0 &&& 63) : Int32) = 28 then (mScr X (y3 + 1)).bind fun z202 => (mScr X (y3 + 2)).bind fun z203 => (r9_whose I z202 z203).bind fun z204 => (mScr X (y3 + 1)).bind fun z205 => (mScr X (y3 + 2)).bind fun z206 => (r10_whose I z205 z206).bind fun z207 => if (z204 : Int32) = (z207.1 : Int32) then (mStO s).bind fun z208 => lL_law X f (y3 + 6) s z207.2 else some 0 else if ((z0 &&& 63) : Int32) = 29 then (mScr X (y3 + 1)).bind fun z209 => (mScr X (y3 + 2)).bind fun z210 => (r9_have I z209 z210).bind fun z211 => (mScr X (y3 + 1)).bind fun z212 => (mScr X (y3 + 2)).bind fun z213 => (r10_have z211.2 z212 z213).bind fun z214 => if (z211.1 : Int32) = (z214.1 : Int32) then (mStO s).bind fun z215 => lL_law X f (y3 + 6) s z214.2 else some 0 else if ((z0 &&& 63) : Int32) = 30 then (mScr X (y3 + 1)).bind fun z216 => (r9_alike I z216).bind fun z217 => (mScr X (y3 + 1)).bind fun z218 => (r10_alike I z218).bind fun z219 => if (z217 : Int32) = (z219.1 : Int32) then (mStO s).bind fun z220 => lL_law X f (y3 + 6) s z219.2 else some 0 else if ((z0 &&& 63) : Int32) = 31 then (mScr X (y3 + 1)).bind fun z221 => (mScr X (y3 + 2)).bind fun z222 => (mScr X (y3 + 3)).bind fun z223 => (mScr X (y3 + 4)).bind fun z224 => (r9_pages z221 z222 z223 z224).bind fun z225 => (mScr X (y3 + 1)).bind fun z226 => (mScr X (y3 + 2)).bind fun z227 => (mScr X (y3 + 3)).bind fun z228 => (mScr X (y3 + 4)).bind fun z229 => (r10_pages I z226 z227 z228 z229).bind fun z230 => if (z225 : Int32) = (z230.1 : Int32) then (mStO s).bind fun z231 => lL_law X f (y3 + 6) s z230.2 else some 0 else if ((z0 &&& 63) : Int32) = 32 then (mScr X (y3 + 1)).bind fun z232 => (r9_game I z232).bind fun z233 => (mScr X (y3 + 1)).bind fun z234 => (r10_game I z234).bind fun z235 => if (z233 : Int32) = (z235.1 : Int32) then (mStO s).bind fun z236 => lL_law X f (y3 + 6) s z235.2 else some 0 else if ((z0 &&& 63) : Int32) = 33 then (r9_undo I).bind fun z237 => (r10_undo z237.2).bind fun z238 => if (z237.1 : Int32) = (z238.1 : Int32) then (mStO s).bind fun z239 => lL_law X f (y3 + 6) s z238.2 else some 0 else if ((z0 &&& 63) : Int32) = 34 then (mScr X (y3 + 1)).bind fun z240 => (if (z240 : Int32) = (0 : Int32) then some 0 else some 1 : Option (Int32)).bind fun z241 => (r9_image I z241).bind fun z242 => (mScr X (y3 + 1)).bind fun z243 => (if (z243 : Int32) = (0 : Int32) then some 0 else some 1 : Option (Int32)).bind fun z244 => (r10_image z242.2 z244).bind fun z245 => if (z242.1 : Int32) = (z245.1 : Int32) then (mStO s).bind fun z246 => lL_law X f (y3 + 6) s z245.2 else some 0 else if ((z0 &&& 63) : Int32) = 35 then (mScr X (y3 + 1)).bind fun z247 => (mScr X (y3 + 1)).bind fun z248 => (r10_look I z248).bind fun z249 => if ((r9_look I z247) : Int32) = (z249.1 : Int32) then (mStO s).bind fun z250 => lL_law X f (y3 + 6) s z249.2 else some 0 else (mStO s).bind fun z251 => lL_law X f (y3 + 6) s I
set_option maxHeartbeats 8000000 in
set_option maxRecDepth 100000 in
theorem tL_law (X : Nat × (Nat → Int32)) (Q : mQ) : ∀ (f : Nat) (y3 : Int32) (s : Nat) (hs : mStg s) (I : mI) (z : Int32), lL_law X f y3 s I = some z → (∀ (I : mI) (s : Nat), Q (some (.int z)) NN KK I (PP s)) → mV X mL_law 53 0 0 18 [.retAddr 2, .ref 0, .ref 119, .int y3] [] NN KK I (PP s) Q := by
  intro f
  induction f with
  | zero => intro y3 s hs I z hr hq; cases hr
  | succ f ih =>
    intro y3 s hs I z hr hq
    unfold lL_law at hr
    refine mV_iload fL_law_18 rfl ?_
    refine mV_aloadS fL_law_19 rfl ?_
    refine mV_slen fL_law_20 ?_
    refine mV_push fL_law_21 ?_
    refine mV_isub fL_law_23 ?_
    refine mV_icmp_gt fL_law_24 (fun h0 => ?_) (fun h0 => ?_)
    · rw [if_pos h0] at hr
      refine mV_push fL_law_1392 ?_
      have hr := Option.some.inj hr; subst hr
      exact mV_iret rfl rfl fL_law_1393 (hq _ _)
    · rw [if_neg h0] at hr
      refine mV_aloadS fL_law_27 rfl ?_
      refine mV_iload fL_law_28 rfl ?_
      obtain ⟨z0, hz0, hr⟩ := mBind hr
      refine mV_slO fL_law_29 hz0 ?_
      refine mV_push fL_law_30 ?_
      refine mV_iand fL_law_32 ?_
      by_cases h1 : (z0 &&& 63) = 0
      · rw [if_pos h1] at hr
        refine mV_tabEq (v := 0) fL_law_33 h1 (by decide) (by decide) (by decide) (by decide : (33 : Int) + 159 = (192 : Nat)) ?_
        refine mV_aload fL_law_192 rfl ?_
        refine mV_aloadS fL_law_193 rfl ?_
        refine mV_iload fL_law_194 rfl ?_
        refine mV_push fL_law_195 ?_
        refine mV_iadd fL_law_196 ?_
        obtain ⟨z1, hz1, hr⟩ := mBind hr
        refine mV_slO fL_law_197 hz1 ?_
        obtain ⟨z2, hz2, hr⟩ := mBind hr
        refine mV_cV fL_law_198 tg_m9_state mCls9 (by decide) kk_0 (mC_deep (c9_state X I s z1 hz2) (by decide)) rfl rfl (Nat.le_of_ble_eq_true rfl) ?_
        refine mV_aload fL_law_201 rfl ?_
        refine mV_aloadS fL_law_202 rfl ?_
        refine mV_iload fL_law_203 rfl ?_
        refine mV_push fL_law_204 ?_
        refine mV_iadd fL_law_205 ?_
        obtain ⟨z3, hz3, hr⟩ := mBind hr
        refine mV_slO fL_law_206 hz3 ?_
        obtain ⟨z4, hz4, hr⟩ := mBind hr
        refine mV_cV fL_law_207 tg_m10_state mCls10 (by decide) kk_119 (mC_deep (c10_state X z2.2 s z3 hz4) (by decide)) rfl rfl (Nat.le_of_ble_eq_true rfl) ?_
        refine mV_icmp_eq fL_law_210 (fun h2 => ?_) (fun h2 => ?_)
        · rw [if_pos h2] at hr
          refine mV_iinc (y := (y3 + 6)) (L' := [.retAddr 2, .ref 0, .ref 119, .int (y3 + 6)]) fL_law_1386 rfl rfl (by decide) rfl rfl ?_
          refine mV_goto fL_law_1389 ?_
          obtain ⟨z5, hz5, hr⟩ := mBind hr
          exact ih (y3 + 6) s (mStO_ok hz5) z4.2 _ hr hq
        · rw [if_neg h2] at hr
          refine mV_push fL_law_213 ?_
          have hr := Option.some.inj hr; subst hr
          exact mV_iret rfl rfl fL_law_214 (hq _ _)
      rw [if_neg h1] at hr
      by_cases h3 : (z0 &&& 63) = 1
      · rw [if_pos h3] at hr
        refine mV_tabEq (v := 1) fL_law_33 h3 (by decide) (by decide) (by decide) (by decide : (33 : Int) + 182 = (215 : Nat)) ?_
        refine mV_aload fL_law_215 rfl ?_
        refine mV_aloadS fL_law_216 rfl ?_
        refine mV_iload fL_law_217 rfl ?_
        refine mV_push fL_law_218 ?_
        refine mV_iadd fL_law_219 ?_
        obtain ⟨z6, hz6, hr⟩ := mBind hr
        refine mV_slO fL_law_220 hz6 ?_
        refine mV_aloadS fL_law_221 rfl ?_
        refine mV_iload fL_law_222 rfl ?_
        refine mV_push fL_law_223 ?_
        refine mV_iadd fL_law_224 ?_
        obtain ⟨z7, hz7, hr⟩ := mBind hr
        refine mV_slO fL_law_225 hz7 ?_
        refine mV_aloadS fL_law_226 rfl ?_
        refine mV_iload fL_law_227 rfl ?_
        refine mV_push fL_law_228 ?_
        refine mV_iadd fL_law_229 ?_
        obtain ⟨z8, hz8, hr⟩ := mBind hr
        refine mV_slO fL_law_230 hz8 ?_
        obtain ⟨z9, hz9, hr⟩ := mBind hr
        refine mV_cV fL_law_231 tg_m9_piece mCls9 (by decide) kk_0 (mC_deep (c9_piece X I s z6 z7 z8 hz9) (by decide)) rfl rfl (Nat.le_of_ble_eq_true rfl) ?_
        refine mV_aload fL_law_234 rfl ?_
        refine mV_aloadS fL_law_235 rfl ?_
        refine mV_iload fL_law_236 rfl ?_
        refine mV_push fL_law_237 ?_
        refine mV_iadd fL_law_238 ?_
        obtain ⟨z10, hz10, hr⟩ := mBind hr
        refine mV_slO fL_law_239 hz10 ?_
        refine mV_aloadS fL_law_240 rfl ?_
        refine mV_iload fL_law_241 rfl ?_
        refine mV_push fL_law_242 ?_
        refine mV_iadd fL_law_243 ?_
        obtain ⟨z11, hz11, hr⟩ := mBind hr
        refine mV_slO fL_law_244 hz11 ?_
        refine mV_aloadS fL_law_245 rfl ?_
        refine mV_iload fL_law_246 rfl ?_
        refine mV_push fL_law_247 ?_
        refine mV_iadd fL_law_248 ?_
        obtain ⟨z12, hz12, hr⟩ := mBind hr
        refine mV_slO fL_law_249 hz12 ?_
        obtain ⟨z13, hz13, hr⟩ := mBind hr
        refine mV_cV fL_law_250 tg_m10_piece mCls10 (by decide) kk_119 (mC_deep (c10_piece X z9.2 s z10 z11 z12 hz13) (by decide)) rfl rfl (Nat.le_of_ble_eq_true rfl) ?_
        refine mV_icmp_eq fL_law_253 (fun h4 => ?_) (fun h4 => ?_)
        · rw [if_pos h4] at hr
          refine mV_iinc (y := (y3 + 6)) (L' := [.retAddr 2, .ref 0, .ref 119, .int (y3 + 6)]) fL_law_1386 rfl rfl (by decide) rfl rfl ?_
          refine mV_goto fL_law_1389 ?_
          obtain ⟨z14, hz14, hr⟩ := mBind hr
          exact ih (y3 + 6) s (mStO_ok hz14) z13.2 _ hr hq
        · rw [if_neg h4] at hr
          refine mV_push fL_law_256 ?_
          have hr := Option.some.inj hr; subst hr
          exact mV_iret rfl rfl fL_law_257 (hq _ _)
      rw [if_neg h3] at hr
      by_cases h5 : (z0 &&& 63) = 2
      · rw [if_pos h5] at hr
        refine mV_tabEq (v := 2) fL_law_33 h5 (by decide) (by decide) (by decide) (by decide : (33 : Int) + 225 = (258 : Nat)) ?_
        refine mV_aload fL_law_258 rfl ?_
        refine mV_aloadS fL_law_259 rfl ?_
        refine mV_iload fL_law_260 rfl ?_
        refine mV_push fL_law_261 ?_
        refine mV_iadd fL_law_262 ?_
        obtain ⟨z15, hz15, hr⟩ := mBind hr
        refine mV_slO fL_law_263 hz15 ?_
        refine mV_aloadS fL_law_264 rfl ?_
        refine mV_iload fL_law_265 rfl ?_
        refine mV_push fL_law_266 ?_
        refine mV_iadd fL_law_267 ?_
        obtain ⟨z16, hz16, hr⟩ := mBind hr
        refine mV_slO fL_law_268 hz16 ?_
        obtain ⟨z17, hz17, hr⟩ := mBind hr
        refine mV_cV fL_law_269 tg_m9_player mCls9 (by decide) kk_0 (mC_deep (c9_player X I s z15 z16 hz17) (by decide)) rfl rfl (Nat.le_of_ble_eq_true rfl) ?_
        refine mV_aload fL_law_272 rfl ?_
        refine mV_aloadS fL_law_273 rfl ?_
        refine mV_iload fL_law_274 rfl ?_
        refine mV_push fL_law_275 ?_
        refine mV_iadd fL_law_276 ?_
        obtain ⟨z18, hz18, hr⟩ := mBind hr
        refine mV_slO fL_law_277 hz18 ?_
        refine mV_aloadS fL_law_278 rfl ?_
        refine mV_iload fL_law_279 rfl ?_
        refine mV_push fL_law_280 ?_
        refine mV_iadd fL_law_281 ?_
        obtain ⟨z19, hz19, hr⟩ := mBind hr
        refine mV_slO fL_law_282 hz19 ?_
        obtain ⟨z20, hz20, hr⟩ := mBind hr
        refine mV_cV fL_law_283 tg_m10_player mCls10 (by decide) kk_119 (mC_deep (c10_player X z17.2 s z18 z19 hz20) (by decide)) rfl rfl (Nat.le_of_ble_eq_true rfl) ?_
        refine mV_icmp_eq fL_law_286 (fun h6 => ?_) (fun h6 => ?_)
        · rw [if_pos h6] at hr
          refine mV_iinc (y := (y3 + 6)) (L' := [.retAddr 2, .ref 0, .ref 119, .int (y3 + 6)]) fL_law_1386 rfl rfl (by decide) rfl rfl ?_
          refine mV_goto fL_law_1389 ?_
          obtain ⟨z21, hz21, hr⟩ := mBind hr
          exact ih (y3 + 6) s (mStO_ok hz21) z20.2 _ hr hq
        · rw [if_neg h6] at hr
          refine mV_push fL_law_289 ?_
          have hr := Option.some.inj hr; subst hr
          exact mV_iret rfl rfl fL_law_290 (hq _ _)
      rw [if_neg h5] at hr
      by_cases h7 : (z0 &&& 63) = 3
      · rw [if_pos h7] at hr
        refine mV_tabEq (v := 3) fL_law_33 h7 (by decide) (by decide) (by decide) (by decide : (33 : Int) + 258 = (291 : Nat)) ?_
        refine mV_aload fL_law_291 rfl ?_
        refine mV_aloadS fL_law_292 rfl ?_
        refine mV_iload fL_law_293 rfl ?_
        refine mV_push fL_law_294 ?_
        refine mV_iadd fL_law_295 ?_
        obtain ⟨z22, hz22, hr⟩ := mBind hr
        refine mV_slO fL_law_296 hz22 ?_
        refine mV_aloadS fL_law_297 rfl ?_
        refine mV_iload fL_law_298 rfl ?_
        refine mV_push fL_law_299 ?_
        refine mV_iadd fL_law_300 ?_
        obtain ⟨z23, hz23, hr⟩ := mBind hr
        refine mV_slO fL_law_301 hz23 ?_
        refine mV_aloadS fL_law_302 rfl ?_
        refine mV_iload fL_law_303 rfl ?_
        refine mV_push fL_law_304 ?_
        refine mV_iadd fL_law_305 ?_
        obtain ⟨z24, hz24, hr⟩ := mBind hr
        refine mV_slO fL_law_306 hz24 ?_
        obtain ⟨z25, hz25, hr⟩ := mBind hr
        refine mV_cV fL_law_307 tg_m9_set mCls9 (by decide) kk_0 (mC_deep (c9_set X I s z22 z23 z24 hz25) (by decide)) rfl rfl (Nat.le_of_ble_eq_true rfl) ?_
        refine mV_aload fL_law_310 rfl ?_
        refine mV_aloadS fL_law_311 rfl ?_
        refine mV_iload fL_law_312 rfl ?_
        refine mV_push fL_law_313 ?_
        refine mV_iadd fL_law_314 ?_
        obtain ⟨z26, hz26, hr⟩ := mBind hr
        refine mV_slO fL_law_315 hz26 ?_
        refine mV_aloadS fL_law_316 rfl ?_
        refine mV_iload fL_law_317 rfl ?_
        refine mV_push fL_law_318 ?_
        refine mV_iadd fL_law_319 ?_
        obtain ⟨z27, hz27, hr⟩ := mBind hr
        refine mV_slO fL_law_320 hz27 ?_
        refine mV_aloadS fL_law_321 rfl ?_
        refine mV_iload fL_law_322 rfl ?_
        refine mV_push fL_law_323 ?_
        refine mV_iadd fL_law_324 ?_
        obtain ⟨z28, hz28, hr⟩ := mBind hr
        refine mV_slO fL_law_325 hz28 ?_
        obtain ⟨z29, hz29, hr⟩ := mBind hr
        refine mV_cV fL_law_326 tg_m10_set mCls10 (by decide) kk_119 (mC_deep (c10_set X z25.2 s z26 z27 z28 hz29) (by decide)) rfl rfl (Nat.le_of_ble_eq_true rfl) ?_
        refine mV_icmp_eq fL_law_329 (fun h8 => ?_) (fun h8 => ?_)
        · rw [if_pos h8] at hr
          refine mV_iinc (y := (y3 + 6)) (L' := [.retAddr 2, .ref 0, .ref 119, .int (y3 + 6)]) fL_law_1386 rfl rfl (by decide) rfl rfl ?_
          refine mV_goto fL_law_1389 ?_
          obtain ⟨z30, hz30, hr⟩ := mBind hr
          exact ih (y3 + 6) s (mStO_ok hz30) z29.2 _ hr hq
        · rw [if_neg h8] at hr
          refine mV_push fL_law_332 ?_
          have hr := Option.some.inj hr; subst hr
          exact mV_iret rfl rfl fL_law_333 (hq _ _)
      rw [if_neg h7] at hr
      by_cases h9 : (z0 &&& 63) = 4
      · rw [if_pos h9] at hr
        refine mV_tabEq (v := 4) fL_law_33 h9 (by decide) (by decide) (by decide) (by decide : (33 : Int) + 301 = (334 : Nat)) ?_
        refine mV_aload fL_law_334 rfl ?_
        refine mV_aloadS fL_law_335 rfl ?_
        refine mV_iload fL_law_336 rfl ?_
        refine mV_push fL_law_337 ?_
        refine mV_iadd fL_law_338 ?_
        obtain ⟨z31, hz31, hr⟩ := mBind hr
        refine mV_slO fL_law_339 hz31 ?_
        refine mV_aloadS fL_law_340 rfl ?_
        refine mV_iload fL_law_341 rfl ?_
        refine mV_push fL_law_342 ?_
        refine mV_iadd fL_law_343 ?_
        obtain ⟨z32, hz32, hr⟩ := mBind hr
        refine mV_slO fL_law_344 hz32 ?_
        obtain ⟨z33, hz33, hr⟩ := mBind hr
        refine mV_cV fL_law_345 tg_m9_play mCls9 (by decide) kk_0 (mC_deep (c9_play X I s hs z31 z32 hz33) (by decide)) rfl rfl (Nat.le_of_ble_eq_true rfl) ?_
        refine mV_aload fL_law_348 rfl ?_
        refine mV_aloadS fL_law_349 rfl ?_
        refine mV_iload fL_law_350 rfl ?_
        refine mV_push fL_law_351 ?_
        refine mV_iadd fL_law_352 ?_
        obtain ⟨z34, hz34, hr⟩ := mBind hr
        refine mV_slO fL_law_353 hz34 ?_
        refine mV_aloadS fL_law_354 rfl ?_
        refine mV_iload fL_law_355 rfl ?_
        refine mV_push fL_law_356 ?_
        refine mV_iadd fL_law_357 ?_
        obtain ⟨z35, hz35, hr⟩ := mBind hr
        refine mV_slO fL_law_358 hz35 ?_
        obtain ⟨z36, hz36, hr⟩ := mBind hr
        refine mV_cV fL_law_359 tg_m10_play mCls10 (by decide) kk_119 (mC_deep (c10_play X z33.2.1 z33.2.2 z34 z35 hz36) (by decide)) rfl rfl (Nat.le_of_ble_eq_true rfl) ?_
        refine mV_icmp_eq fL_law_362 (fun h10 => ?_) (fun h10 => ?_)
        · rw [if_pos h10] at hr
          refine mV_iinc (y := (y3 + 6)) (L' := [.retAddr 2, .ref 0, .ref 119, .int (y3 + 6)]) fL_law_1386 rfl rfl (by decide) rfl rfl ?_
          refine mV_goto fL_law_1389 ?_
          obtain ⟨z37, hz37, hr⟩ := mBind hr
          exact ih (y3 + 6) z33.2.2 (mStO_ok hz37) z36.2 _ hr hq
        · rw [if_neg h10] at hr
          refine mV_push fL_law_365 ?_
          have hr := Option.some.inj hr; subst hr
          exact mV_iret rfl rfl fL_law_366 (hq _ _)
      rw [if_neg h9] at hr
      by_cases h11 : (z0 &&& 63) = 5
      · rw [if_pos h11] at hr
        refine mV_tabEq (v := 5) fL_law_33 h11 (by decide) (by decide) (by decide) (by decide : (33 : Int) + 334 = (367 : Nat)) ?_
        refine mV_aload fL_law_367 rfl ?_
        refine mV_aloadS fL_law_368 rfl ?_
        refine mV_iload fL_law_369 rfl ?_
        refine mV_push fL_law_370 ?_
        refine mV_iadd fL_law_371 ?_
        obtain ⟨z38, hz38, hr⟩ := mBind hr
        refine mV_slO fL_law_372 hz38 ?_
        refine mV_aloadS fL_law_373 rfl ?_
        refine mV_iload fL_law_374 rfl ?_
        refine mV_push fL_law_375 ?_
        refine mV_iadd fL_law_376 ?_
        obtain ⟨z39, hz39, hr⟩ := mBind hr
        refine mV_slO fL_law_377 hz39 ?_
        obtain ⟨z40, hz40, hr⟩ := mBind hr
        refine mV_cV fL_law_378 tg_m9_act mCls9 (by decide) kk_0 (mC_deep (c9_act X I s hs z38 z39 hz40) (by decide)) rfl rfl (Nat.le_of_ble_eq_true rfl) ?_
        refine mV_aload fL_law_381 rfl ?_
        refine mV_aloadS fL_law_382 rfl ?_
        refine mV_iload fL_law_383 rfl ?_
        refine mV_push fL_law_384 ?_
        refine mV_iadd fL_law_385 ?_
        obtain ⟨z41, hz41, hr⟩ := mBind hr
        refine mV_slO fL_law_386 hz41 ?_
        refine mV_aloadS fL_law_387 rfl ?_
        refine mV_iload fL_law_388 rfl ?_
        refine mV_push fL_law_389 ?_
        refine mV_iadd fL_law_390 ?_
        obtain ⟨z42, hz42, hr⟩ := mBind hr
        refine mV_slO fL_law_391 hz42 ?_
        obtain ⟨z43, hz43, hr⟩ := mBind hr
        refine mV_cV fL_law_392 tg_m10_act mCls10 (by decide) kk_119 (mC_deep (c10_act X z40.2.1 z40.2.2 z41 z42 hz43) (by decide)) rfl rfl (Nat.le_of_ble_eq_true rfl) ?_
        refine mV_icmp_eq fL_law_395 (fun h12 => ?_) (fun h12 => ?_)
        · rw [if_pos h12] at hr
          refine mV_iinc (y := (y3 + 6)) (L' := [.retAddr 2, .ref 0, .ref 119, .int (y3 + 6)]) fL_law_1386 rfl rfl (by decide) rfl rfl ?_
          refine mV_goto fL_law_1389 ?_
          obtain ⟨z44, hz44, hr⟩ := mBind hr
          exact ih (y3 + 6) z40.2.2 (mStO_ok hz44) z43.2 _ hr hq
        · rw [if_neg h12] at hr
          refine mV_push fL_law_398 ?_
          have hr := Option.some.inj hr; subst hr
          exact mV_iret rfl rfl fL_law_399 (hq _ _)
      rw [if_neg h11] at hr
      by_cases h13 : (z0 &&& 63) = 6
      · rw [if_pos h13] at hr
        refine mV_tabEq (v := 6) fL_law_33 h13 (by decide) (by decide) (by decide) (by decide : (33 : Int) + 367 = (400 : Nat)) ?_
        refine mV_aload fL_law_400 rfl ?_
        refine mV_aloadS fL_law_401 rfl ?_
        refine mV_iload fL_law_402 rfl ?_
        refine mV_push fL_law_403 ?_
        refine mV_iadd fL_law_404 ?_
        obtain ⟨z45, hz45, hr⟩ := mBind hr
        refine mV_slO fL_law_405 hz45 ?_
        obtain ⟨z46, hz46, hr⟩ := mBind hr
        refine mV_cV fL_law_406 tg_m9_days mCls9 (by decide) kk_0 (mC_deep (c9_days X I s hs z45 hz46) (by decide)) rfl rfl (Nat.le_of_ble_eq_true rfl) ?_
        refine mV_aload fL_law_409 rfl ?_
        refine mV_aloadS fL_law_410 rfl ?_
        refine mV_iload fL_law_411 rfl ?_
        refine mV_push fL_law_412 ?_
        refine mV_iadd fL_law_413 ?_
        obtain ⟨z47, hz47, hr⟩ := mBind hr
        refine mV_slO fL_law_414 hz47 ?_
        obtain ⟨z48, hz48, hr⟩ := mBind hr
        refine mV_cV fL_law_415 tg_m10_days mCls10 (by decide) kk_119 (mC_deep (c10_days X z46.2.1 z46.2.2 z47 hz48) (by decide)) rfl rfl (Nat.le_of_ble_eq_true rfl) ?_
        refine mV_icmp_eq fL_law_418 (fun h14 => ?_) (fun h14 => ?_)
        · rw [if_pos h14] at hr
          refine mV_iinc (y := (y3 + 6)) (L' := [.retAddr 2, .ref 0, .ref 119, .int (y3 + 6)]) fL_law_1386 rfl rfl (by decide) rfl rfl ?_
          refine mV_goto fL_law_1389 ?_
          obtain ⟨z49, hz49, hr⟩ := mBind hr
          exact ih (y3 + 6) z46.2.2 (mStO_ok hz49) z48.2 _ hr hq
        · rw [if_neg h14] at hr
          refine mV_push fL_law_421 ?_
          have hr := Option.some.inj hr; subst hr
          exact mV_iret rfl rfl fL_law_422 (hq _ _)
      rw [if_neg h13] at hr
      by_cases h15 : (z0 &&& 63) = 7
      · rw [if_pos h15] at hr
        refine mV_tabEq (v := 7) fL_law_33 h15 (by decide) (by decide) (by decide) (by decide : (33 : Int) + 390 = (423 : Nat)) ?_
        refine mV_aload fL_law_423 rfl ?_
        refine mV_aloadS fL_law_424 rfl ?_
        refine mV_iload fL_law_425 rfl ?_
        refine mV_push fL_law_426 ?_
        refine mV_iadd fL_law_427 ?_
        obtain ⟨z50, hz50, hr⟩ := mBind hr
        refine mV_slO fL_law_428 hz50 ?_
        refine mV_aloadS fL_law_429 rfl ?_
        refine mV_iload fL_law_430 rfl ?_
        refine mV_push fL_law_431 ?_
        refine mV_iadd fL_law_432 ?_
        obtain ⟨z51, hz51, hr⟩ := mBind hr
        refine mV_slO fL_law_433 hz51 ?_
        refine mV_aloadS fL_law_434 rfl ?_
        refine mV_iload fL_law_435 rfl ?_
        refine mV_push fL_law_436 ?_
        refine mV_iadd fL_law_437 ?_
        obtain ⟨z52, hz52, hr⟩ := mBind hr
        refine mV_slO fL_law_438 hz52 ?_
        refine mV_aloadS fL_law_439 rfl ?_
        refine mV_iload fL_law_440 rfl ?_
        refine mV_push fL_law_441 ?_
        refine mV_iadd fL_law_442 ?_
        obtain ⟨z53, hz53, hr⟩ := mBind hr
        refine mV_slO fL_law_443 hz53 ?_
        refine mV_aloadS fL_law_444 rfl ?_
        refine mV_iload fL_law_445 rfl ?_
        refine mV_push fL_law_446 ?_
        refine mV_iadd fL_law_447 ?_
        obtain ⟨z54, hz54, hr⟩ := mBind hr
        refine mV_slO fL_law_448 hz54 ?_
        obtain ⟨z55, hz55, hr⟩ := mBind hr
        refine mV_cV fL_law_449 tg_m9_feed mCls9 (by decide) kk_0 (mC_deep (c9_feed X I s z50 z51 z52 z53 z54 hz55) (by decide)) rfl rfl (Nat.le_of_ble_eq_true rfl) ?_
        refine mV_aload fL_law_452 rfl ?_
        refine mV_aloadS fL_law_453 rfl ?_
        refine mV_iload fL_law_454 rfl ?_
        refine mV_push fL_law_455 ?_
        refine mV_iadd fL_law_456 ?_
        obtain ⟨z56, hz56, hr⟩ := mBind hr
        refine mV_slO fL_law_457 hz56 ?_
        refine mV_aloadS fL_law_458 rfl ?_
        refine mV_iload fL_law_459 rfl ?_
        refine mV_push fL_law_460 ?_
        refine mV_iadd fL_law_461 ?_
        obtain ⟨z57, hz57, hr⟩ := mBind hr
        refine mV_slO fL_law_462 hz57 ?_
        refine mV_aloadS fL_law_463 rfl ?_
        refine mV_iload fL_law_464 rfl ?_
        refine mV_push fL_law_465 ?_
        refine mV_iadd fL_law_466 ?_
        obtain ⟨z58, hz58, hr⟩ := mBind hr
        refine mV_slO fL_law_467 hz58 ?_
        refine mV_aloadS fL_law_468 rfl ?_
        refine mV_iload fL_law_469 rfl ?_
        refine mV_push fL_law_470 ?_
        refine mV_iadd fL_law_471 ?_
        obtain ⟨z59, hz59, hr⟩ := mBind hr
        refine mV_slO fL_law_472 hz59 ?_
        refine mV_aloadS fL_law_473 rfl ?_
        refine mV_iload fL_law_474 rfl ?_
        refine mV_push fL_law_475 ?_
        refine mV_iadd fL_law_476 ?_
        obtain ⟨z60, hz60, hr⟩ := mBind hr
        refine mV_slO fL_law_477 hz60 ?_
        obtain ⟨z61, hz61, hr⟩ := mBind hr
        refine mV_cV fL_law_478 tg_m10_feed mCls10 (by decide) kk_119 (mC_deep (c10_feed X z55.2 s z56 z57 z58 z59 z60 hz61) (by decide)) rfl rfl (Nat.le_of_ble_eq_true rfl) ?_
        refine mV_icmp_eq fL_law_481 (fun h16 => ?_) (fun h16 => ?_)
        · rw [if_pos h16] at hr
          refine mV_iinc (y := (y3 + 6)) (L' := [.retAddr 2, .ref 0, .ref 119, .int (y3 + 6)]) fL_law_1386 rfl rfl (by decide) rfl rfl ?_
          refine mV_goto fL_law_1389 ?_
          obtain ⟨z62, hz62, hr⟩ := mBind hr
          exact ih (y3 + 6) s (mStO_ok hz62) z61.2 _ hr hq
        · rw [if_neg h16] at hr
          refine mV_push fL_law_484 ?_
          have hr := Option.some.inj hr; subst hr
          exact mV_iret rfl rfl fL_law_485 (hq _ _)
      rw [if_neg h15] at hr
      by_cases h17 : (z0 &&& 63) = 8
      · rw [if_pos h17] at hr
        refine mV_tabEq (v := 8) fL_law_33 h17 (by decide) (by decide) (by decide) (by decide : (33 : Int) + 453 = (486 : Nat)) ?_
        refine mV_aload fL_law_486 rfl ?_
        refine mV_aloadS fL_law_487 rfl ?_
        refine mV_iload fL_law_488 rfl ?_
        refine mV_push fL_law_489 ?_
        refine mV_iadd fL_law_490 ?_
        obtain ⟨z63, hz63, hr⟩ := mBind hr
        refine mV_slO fL_law_491 hz63 ?_
        obtain ⟨z64, hz64, hr⟩ := mBind hr
        refine mV_cV fL_law_492 tg_m9_end mCls9 (by decide) kk_0 (mC_deep (c9_end X I s z63 hz64) (by decide)) rfl rfl (Nat.le_of_ble_eq_true rfl) ?_
        refine mV_aload fL_law_495 rfl ?_
        refine mV_aloadS fL_law_496 rfl ?_
        refine mV_iload fL_law_497 rfl ?_
        refine mV_push fL_law_498 ?_
        refine mV_iadd fL_law_499 ?_
        obtain ⟨z65, hz65, hr⟩ := mBind hr
        refine mV_slO fL_law_500 hz65 ?_
        obtain ⟨z66, hz66, hr⟩ := mBind hr
        refine mV_cV fL_law_501 tg_m10_end mCls10 (by decide) kk_119 (mC_deep (c10_end X z64.2 s z65 hz66) (by decide)) rfl rfl (Nat.le_of_ble_eq_true rfl) ?_
        refine mV_icmp_eq fL_law_504 (fun h18 => ?_) (fun h18 => ?_)
        · rw [if_pos h18] at hr
          refine mV_iinc (y := (y3 + 6)) (L' := [.retAddr 2, .ref 0, .ref 119, .int (y3 + 6)]) fL_law_1386 rfl rfl (by decide) rfl rfl ?_
          refine mV_goto fL_law_1389 ?_
          obtain ⟨z67, hz67, hr⟩ := mBind hr
          exact ih (y3 + 6) s (mStO_ok hz67) z66.2 _ hr hq
        · rw [if_neg h18] at hr
          refine mV_push fL_law_507 ?_
          have hr := Option.some.inj hr; subst hr
          exact mV_iret rfl rfl fL_law_508 (hq _ _)
      rw [if_neg h17] at hr
      by_cases h19 : (z0 &&& 63) = 9
      · rw [if_pos h19] at hr
        refine mV_tabEq (v := 9) fL_law_33 h19 (by decide) (by decide) (by decide) (by decide : (33 : Int) + 476 = (509 : Nat)) ?_
        refine mV_aload fL_law_509 rfl ?_
        refine mV_aloadS fL_law_510 rfl ?_
        refine mV_iload fL_law_511 rfl ?_
        refine mV_push fL_law_512 ?_
        refine mV_iadd fL_law_513 ?_
        obtain ⟨z68, hz68, hr⟩ := mBind hr
        refine mV_slO fL_law_514 hz68 ?_
        obtain ⟨z69, hz69, hr⟩ := mBind hr
        refine mV_cV fL_law_515 tg_m9_text mCls9 (by decide) kk_0 (mC_deep (c9_text X I s z68 hz69) (by decide)) rfl rfl (Nat.le_of_ble_eq_true rfl) ?_
        refine mV_aload fL_law_518 rfl ?_
        refine mV_aloadS fL_law_519 rfl ?_
        refine mV_iload fL_law_520 rfl ?_
        refine mV_push fL_law_521 ?_
        refine mV_iadd fL_law_522 ?_
        obtain ⟨z70, hz70, hr⟩ := mBind hr
        refine mV_slO fL_law_523 hz70 ?_
        obtain ⟨z71, hz71, hr⟩ := mBind hr
        refine mV_cV fL_law_524 tg_m10_text mCls10 (by decide) kk_119 (mC_deep (c10_text X z69.2 s z70 hz71) (by decide)) rfl rfl (Nat.le_of_ble_eq_true rfl) ?_
        refine mV_icmp_eq fL_law_527 (fun h20 => ?_) (fun h20 => ?_)
        · rw [if_pos h20] at hr
          refine mV_iinc (y := (y3 + 6)) (L' := [.retAddr 2, .ref 0, .ref 119, .int (y3 + 6)]) fL_law_1386 rfl rfl (by decide) rfl rfl ?_
          refine mV_goto fL_law_1389 ?_
          obtain ⟨z72, hz72, hr⟩ := mBind hr
          exact ih (y3 + 6) s (mStO_ok hz72) z71.2 _ hr hq
        · rw [if_neg h20] at hr
          refine mV_push fL_law_530 ?_
          have hr := Option.some.inj hr; subst hr
          exact mV_iret rfl rfl fL_law_531 (hq _ _)
      rw [if_neg h19] at hr
      by_cases h21 : (z0 &&& 63) = 10
      · rw [if_pos h21] at hr
        refine mV_tabEq (v := 10) fL_law_33 h21 (by decide) (by decide) (by decide) (by decide : (33 : Int) + 499 = (532 : Nat)) ?_
        refine mV_aload fL_law_532 rfl ?_
        refine mV_aloadS fL_law_533 rfl ?_
        refine mV_iload fL_law_534 rfl ?_
        refine mV_push fL_law_535 ?_
        refine mV_iadd fL_law_536 ?_
        obtain ⟨z73, hz73, hr⟩ := mBind hr
        refine mV_slO fL_law_537 hz73 ?_
        refine mV_cV fL_law_538 tg_m9_fault mCls9 (by decide) kk_0 (mC_deep (c9_fault X I s z73 rfl) (by decide)) rfl rfl (Nat.le_of_ble_eq_true rfl) ?_
        refine mV_aload fL_law_541 rfl ?_
        refine mV_aloadS fL_law_542 rfl ?_
        refine mV_iload fL_law_543 rfl ?_
        refine mV_push fL_law_544 ?_
        refine mV_iadd fL_law_545 ?_
        obtain ⟨z74, hz74, hr⟩ := mBind hr
        refine mV_slO fL_law_546 hz74 ?_
        obtain ⟨z75, hz75, hr⟩ := mBind hr
        refine mV_cV fL_law_547 tg_m10_fault mCls10 (by decide) kk_119 (mC_deep (c10_fault X I s z74 hz75) (by decide)) rfl rfl (Nat.le_of_ble_eq_true rfl) ?_
        refine mV_icmp_eq fL_law_550 (fun h22 => ?_) (fun h22 => ?_)
        · rw [if_pos h22] at hr
          refine mV_iinc (y := (y3 + 6)) (L' := [.retAddr 2, .ref 0, .ref 119, .int (y3 + 6)]) fL_law_1386 rfl rfl (by decide) rfl rfl ?_
          refine mV_goto fL_law_1389 ?_
          obtain ⟨z76, hz76, hr⟩ := mBind hr
          exact ih (y3 + 6) s (mStO_ok hz76) z75.2 _ hr hq
        · rw [if_neg h22] at hr
          refine mV_push fL_law_553 ?_
          have hr := Option.some.inj hr; subst hr
          exact mV_iret rfl rfl fL_law_554 (hq _ _)
      rw [if_neg h21] at hr
      by_cases h23 : (z0 &&& 63) = 11
      · rw [if_pos h23] at hr
        refine mV_tabEq (v := 11) fL_law_33 h23 (by decide) (by decide) (by decide) (by decide : (33 : Int) + 522 = (555 : Nat)) ?_
        refine mV_aload fL_law_555 rfl ?_
        refine mV_aloadS fL_law_556 rfl ?_
        refine mV_iload fL_law_557 rfl ?_
        refine mV_push fL_law_558 ?_
        refine mV_iadd fL_law_559 ?_
        obtain ⟨z77, hz77, hr⟩ := mBind hr
        refine mV_slO fL_law_560 hz77 ?_
        refine mV_aloadS fL_law_561 rfl ?_
        refine mV_iload fL_law_562 rfl ?_
        refine mV_push fL_law_563 ?_
        refine mV_iadd fL_law_564 ?_
        obtain ⟨z78, hz78, hr⟩ := mBind hr
        refine mV_slO fL_law_565 hz78 ?_
        obtain ⟨z79, hz79, hr⟩ := mBind hr
        refine mV_cV fL_law_566 tg_m9_of mCls9 (by decide) kk_0 (mC_deep (c9_of X I s hs z77 z78 hz79) (by decide)) rfl rfl (Nat.le_of_ble_eq_true rfl) ?_
        refine mV_aload fL_law_569 rfl ?_
        refine mV_aloadS fL_law_570 rfl ?_
        refine mV_iload fL_law_571 rfl ?_
        refine mV_push fL_law_572 ?_
        refine mV_iadd fL_law_573 ?_
        obtain ⟨z80, hz80, hr⟩ := mBind hr
        refine mV_slO fL_law_574 hz80 ?_
        refine mV_aloadS fL_law_575 rfl ?_
        refine mV_iload fL_law_576 rfl ?_
        refine mV_push fL_law_577 ?_
        refine mV_iadd fL_law_578 ?_
        obtain ⟨z81, hz81, hr⟩ := mBind hr
        refine mV_slO fL_law_579 hz81 ?_
        obtain ⟨z82, hz82, hr⟩ := mBind hr
        refine mV_cV fL_law_580 tg_m10_of mCls10 (by decide) kk_119 (mC_deep (c10_of X z79.2.1 z79.2.2 z80 z81 hz82) (by decide)) rfl rfl (Nat.le_of_ble_eq_true rfl) ?_
        refine mV_icmp_eq fL_law_583 (fun h24 => ?_) (fun h24 => ?_)
        · rw [if_pos h24] at hr
          refine mV_iinc (y := (y3 + 6)) (L' := [.retAddr 2, .ref 0, .ref 119, .int (y3 + 6)]) fL_law_1386 rfl rfl (by decide) rfl rfl ?_
          refine mV_goto fL_law_1389 ?_
          obtain ⟨z83, hz83, hr⟩ := mBind hr
          exact ih (y3 + 6) z79.2.2 (mStO_ok hz83) z82.2 _ hr hq
        · rw [if_neg h24] at hr
          refine mV_push fL_law_586 ?_
          have hr := Option.some.inj hr; subst hr
          exact mV_iret rfl rfl fL_law_587 (hq _ _)
      rw [if_neg h23] at hr
      by_cases h25 : (z0 &&& 63) = 12
      · rw [if_pos h25] at hr
        refine mV_tabEq (v := 12) fL_law_33 h25 (by decide) (by decide) (by decide) (by decide : (33 : Int) + 555 = (588 : Nat)) ?_
        refine mV_aload fL_law_588 rfl ?_
        refine mV_aloadS fL_law_589 rfl ?_
        refine mV_iload fL_law_590 rfl ?_
        refine mV_push fL_law_591 ?_
        refine mV_iadd fL_law_592 ?_
        obtain ⟨z84, hz84, hr⟩ := mBind hr
        refine mV_slO fL_law_593 hz84 ?_
        refine mV_aloadS fL_law_594 rfl ?_
        refine mV_iload fL_law_595 rfl ?_
        refine mV_push fL_law_596 ?_
        refine mV_iadd fL_law_597 ?_
        obtain ⟨z85, hz85, hr⟩ := mBind hr
        refine mV_slO fL_law_598 hz85 ?_
        obtain ⟨z86, hz86, hr⟩ := mBind hr
        refine mV_cV fL_law_599 tg_m9_who mCls9 (by decide) kk_0 (mC_deep (c9_who X I s z84 z85 hz86) (by decide)) rfl rfl (Nat.le_of_ble_eq_true rfl) ?_
        refine mV_aload fL_law_602 rfl ?_
        refine mV_aloadS fL_law_603 rfl ?_
        refine mV_iload fL_law_604 rfl ?_
        refine mV_push fL_law_605 ?_
        refine mV_iadd fL_law_606 ?_
        obtain ⟨z87, hz87, hr⟩ := mBind hr
        refine mV_slO fL_law_607 hz87 ?_
        refine mV_aloadS fL_law_608 rfl ?_
        refine mV_iload fL_law_609 rfl ?_
        refine mV_push fL_law_610 ?_
        refine mV_iadd fL_law_611 ?_
        obtain ⟨z88, hz88, hr⟩ := mBind hr
        refine mV_slO fL_law_612 hz88 ?_
        obtain ⟨z89, hz89, hr⟩ := mBind hr
        refine mV_cV fL_law_613 tg_m10_who mCls10 (by decide) kk_119 (mC_deep (c10_who X I s z87 z88 hz89) (by decide)) rfl rfl (Nat.le_of_ble_eq_true rfl) ?_
        refine mV_icmp_eq fL_law_616 (fun h26 => ?_) (fun h26 => ?_)
        · rw [if_pos h26] at hr
          refine mV_iinc (y := (y3 + 6)) (L' := [.retAddr 2, .ref 0, .ref 119, .int (y3 + 6)]) fL_law_1386 rfl rfl (by decide) rfl rfl ?_
          refine mV_goto fL_law_1389 ?_
          obtain ⟨z90, hz90, hr⟩ := mBind hr
          exact ih (y3 + 6) s (mStO_ok hz90) z89.2 _ hr hq
        · rw [if_neg h26] at hr
          refine mV_push fL_law_619 ?_
          have hr := Option.some.inj hr; subst hr
          exact mV_iret rfl rfl fL_law_620 (hq _ _)
      rw [if_neg h25] at hr
      by_cases h27 : (z0 &&& 63) = 13
      · rw [if_pos h27] at hr
        refine mV_tabEq (v := 13) fL_law_33 h27 (by decide) (by decide) (by decide) (by decide : (33 : Int) + 588 = (621 : Nat)) ?_
        refine mV_aload fL_law_621 rfl ?_
        refine mV_aloadS fL_law_622 rfl ?_
        refine mV_iload fL_law_623 rfl ?_
        refine mV_push fL_law_624 ?_
        refine mV_iadd fL_law_625 ?_
        obtain ⟨z91, hz91, hr⟩ := mBind hr
        refine mV_slO fL_law_626 hz91 ?_
        refine mV_aloadS fL_law_627 rfl ?_
        refine mV_iload fL_law_628 rfl ?_
        refine mV_push fL_law_629 ?_
        refine mV_iadd fL_law_630 ?_
        obtain ⟨z92, hz92, hr⟩ := mBind hr
        refine mV_slO fL_law_631 hz92 ?_
        obtain ⟨z93, hz93, hr⟩ := mBind hr
        refine mV_cV fL_law_632 tg_m9_string mCls9 (by decide) kk_0 (mC_deep (c9_string X I s z91 z92 hz93) (by decide)) rfl rfl (Nat.le_of_ble_eq_true rfl) ?_
        refine mV_aload fL_law_635 rfl ?_
        refine mV_aloadS fL_law_636 rfl ?_
        refine mV_iload fL_law_637 rfl ?_
        refine mV_push fL_law_638 ?_
        refine mV_iadd fL_law_639 ?_
        obtain ⟨z94, hz94, hr⟩ := mBind hr
        refine mV_slO fL_law_640 hz94 ?_
        refine mV_aloadS fL_law_641 rfl ?_
        refine mV_iload fL_law_642 rfl ?_
        refine mV_push fL_law_643 ?_
        refine mV_iadd fL_law_644 ?_
        obtain ⟨z95, hz95, hr⟩ := mBind hr
        refine mV_slO fL_law_645 hz95 ?_
        obtain ⟨z96, hz96, hr⟩ := mBind hr
        refine mV_cV fL_law_646 tg_m10_string mCls10 (by decide) kk_119 (mC_deep (c10_string X I s z94 z95 hz96) (by decide)) rfl rfl (Nat.le_of_ble_eq_true rfl) ?_
        refine mV_icmp_eq fL_law_649 (fun h28 => ?_) (fun h28 => ?_)
        · rw [if_pos h28] at hr
          refine mV_iinc (y := (y3 + 6)) (L' := [.retAddr 2, .ref 0, .ref 119, .int (y3 + 6)]) fL_law_1386 rfl rfl (by decide) rfl rfl ?_
          refine mV_goto fL_law_1389 ?_
          obtain ⟨z97, hz97, hr⟩ := mBind hr
          exact ih (y3 + 6) s (mStO_ok hz97) z96.2 _ hr hq
        · rw [if_neg h28] at hr
          refine mV_push fL_law_652 ?_
          have hr := Option.some.inj hr; subst hr
          exact mV_iret rfl rfl fL_law_653 (hq _ _)
      rw [if_neg h27] at hr
      by_cases h29 : (z0 &&& 63) = 14
      · rw [if_pos h29] at hr
        refine mV_tabEq (v := 14) fL_law_33 h29 (by decide) (by decide) (by decide) (by decide : (33 : Int) + 621 = (654 : Nat)) ?_
        refine mV_aload fL_law_654 rfl ?_
        refine mV_aloadS fL_law_655 rfl ?_
        refine mV_iload fL_law_656 rfl ?_
        refine mV_push fL_law_657 ?_
        refine mV_iadd fL_law_658 ?_
        obtain ⟨z98, hz98, hr⟩ := mBind hr
        refine mV_slO fL_law_659 hz98 ?_
        refine mV_aloadS fL_law_660 rfl ?_
        refine mV_iload fL_law_661 rfl ?_
        refine mV_push fL_law_662 ?_
        refine mV_iadd fL_law_663 ?_
        obtain ⟨z99, hz99, hr⟩ := mBind hr
        refine mV_slO fL_law_664 hz99 ?_
        refine mV_aloadS fL_law_665 rfl ?_
        refine mV_iload fL_law_666 rfl ?_
        refine mV_push fL_law_667 ?_
        refine mV_iadd fL_law_668 ?_
        obtain ⟨z100, hz100, hr⟩ := mBind hr
        refine mV_slO fL_law_669 hz100 ?_
        obtain ⟨z101, hz101, hr⟩ := mBind hr
        refine mV_cV fL_law_670 tg_m9_damps mCls9 (by decide) kk_0 (mC_deep (c9_damps X I s hs z98 z99 z100 hz101) (by decide)) rfl rfl (Nat.le_of_ble_eq_true rfl) ?_
        refine mV_aload fL_law_673 rfl ?_
        refine mV_aloadS fL_law_674 rfl ?_
        refine mV_iload fL_law_675 rfl ?_
        refine mV_push fL_law_676 ?_
        refine mV_iadd fL_law_677 ?_
        obtain ⟨z102, hz102, hr⟩ := mBind hr
        refine mV_slO fL_law_678 hz102 ?_
        refine mV_aloadS fL_law_679 rfl ?_
        refine mV_iload fL_law_680 rfl ?_
        refine mV_push fL_law_681 ?_
        refine mV_iadd fL_law_682 ?_
        obtain ⟨z103, hz103, hr⟩ := mBind hr
        refine mV_slO fL_law_683 hz103 ?_
        refine mV_aloadS fL_law_684 rfl ?_
        refine mV_iload fL_law_685 rfl ?_
        refine mV_push fL_law_686 ?_
        refine mV_iadd fL_law_687 ?_
        obtain ⟨z104, hz104, hr⟩ := mBind hr
        refine mV_slO fL_law_688 hz104 ?_
        obtain ⟨z105, hz105, hr⟩ := mBind hr
        refine mV_cV fL_law_689 tg_m10_damps mCls10 (by decide) kk_119 (mC_deep (c10_damps X z101.2.1 z101.2.2 z102 z103 z104 hz105) (by decide)) rfl rfl (Nat.le_of_ble_eq_true rfl) ?_
        refine mV_icmp_eq fL_law_692 (fun h30 => ?_) (fun h30 => ?_)
        · rw [if_pos h30] at hr
          refine mV_iinc (y := (y3 + 6)) (L' := [.retAddr 2, .ref 0, .ref 119, .int (y3 + 6)]) fL_law_1386 rfl rfl (by decide) rfl rfl ?_
          refine mV_goto fL_law_1389 ?_
          obtain ⟨z106, hz106, hr⟩ := mBind hr
          exact ih (y3 + 6) z101.2.2 (mStO_ok hz106) z105.2 _ hr hq
        · rw [if_neg h30] at hr
          refine mV_push fL_law_695 ?_
          have hr := Option.some.inj hr; subst hr
          exact mV_iret rfl rfl fL_law_696 (hq _ _)
      rw [if_neg h29] at hr
      by_cases h31 : (z0 &&& 63) = 15
      · rw [if_pos h31] at hr
        refine mV_tabEq (v := 15) fL_law_33 h31 (by decide) (by decide) (by decide) (by decide : (33 : Int) + 664 = (697 : Nat)) ?_
        refine mV_aload fL_law_697 rfl ?_
        refine mV_aloadS fL_law_698 rfl ?_
        refine mV_iload fL_law_699 rfl ?_
        refine mV_push fL_law_700 ?_
        refine mV_iadd fL_law_701 ?_
        obtain ⟨z107, hz107, hr⟩ := mBind hr
        refine mV_slO fL_law_702 hz107 ?_
        refine mV_aloadS fL_law_703 rfl ?_
        refine mV_iload fL_law_704 rfl ?_
        refine mV_push fL_law_705 ?_
        refine mV_iadd fL_law_706 ?_
        obtain ⟨z108, hz108, hr⟩ := mBind hr
        refine mV_slO fL_law_707 hz108 ?_
        obtain ⟨z109, hz109, hr⟩ := mBind hr
        refine mV_cV fL_law_708 tg_m9_settles mCls9 (by decide) kk_0 (mC_deep (c9_settles X I s hs z107 z108 hz109) (by decide)) rfl rfl (Nat.le_of_ble_eq_true rfl) ?_
        refine mV_aload fL_law_711 rfl ?_
        refine mV_aloadS fL_law_712 rfl ?_
        refine mV_iload fL_law_713 rfl ?_
        refine mV_push fL_law_714 ?_
        refine mV_iadd fL_law_715 ?_
        obtain ⟨z110, hz110, hr⟩ := mBind hr
        refine mV_slO fL_law_716 hz110 ?_
        refine mV_aloadS fL_law_717 rfl ?_
        refine mV_iload fL_law_718 rfl ?_
        refine mV_push fL_law_719 ?_
        refine mV_iadd fL_law_720 ?_
        obtain ⟨z111, hz111, hr⟩ := mBind hr
        refine mV_slO fL_law_721 hz111 ?_
        obtain ⟨z112, hz112, hr⟩ := mBind hr
        refine mV_cV fL_law_722 tg_m10_settles1 mCls10 (by decide) kk_119 (mC_deep (c10_settles1 X z109.2.1 z109.2.2 z110 z111 hz112) (by decide)) rfl rfl (Nat.le_of_ble_eq_true rfl) ?_
        refine mV_icmp_eq fL_law_725 (fun h32 => ?_) (fun h32 => ?_)
        · rw [if_pos h32] at hr
          refine mV_iinc (y := (y3 + 6)) (L' := [.retAddr 2, .ref 0, .ref 119, .int (y3 + 6)]) fL_law_1386 rfl rfl (by decide) rfl rfl ?_
          refine mV_goto fL_law_1389 ?_
          obtain ⟨z113, hz113, hr⟩ := mBind hr
          exact ih (y3 + 6) z109.2.2 (mStO_ok hz113) z112.2 _ hr hq
        · rw [if_neg h32] at hr
          refine mV_push fL_law_728 ?_
          have hr := Option.some.inj hr; subst hr
          exact mV_iret rfl rfl fL_law_729 (hq _ _)
      rw [if_neg h31] at hr
      by_cases h33 : (z0 &&& 63) = 16
      · rw [if_pos h33] at hr
        refine mV_tabEq (v := 16) fL_law_33 h33 (by decide) (by decide) (by decide) (by decide : (33 : Int) + 697 = (730 : Nat)) ?_
        refine mV_aload fL_law_730 rfl ?_
        refine mV_aloadS fL_law_731 rfl ?_
        refine mV_iload fL_law_732 rfl ?_
        refine mV_push fL_law_733 ?_
        refine mV_iadd fL_law_734 ?_
        obtain ⟨z114, hz114, hr⟩ := mBind hr
        refine mV_slO fL_law_735 hz114 ?_
        refine mV_aloadS fL_law_736 rfl ?_
        refine mV_iload fL_law_737 rfl ?_
        refine mV_push fL_law_738 ?_
        refine mV_iadd fL_law_739 ?_
        obtain ⟨z115, hz115, hr⟩ := mBind hr
        refine mV_slO fL_law_740 hz115 ?_
        obtain ⟨z116, hz116, hr⟩ := mBind hr
        refine mV_cV fL_law_741 tg_m9_book mCls9 (by decide) kk_0 (mC_deep (c9_book X I s z114 z115 hz116) (by decide)) rfl rfl (Nat.le_of_ble_eq_true rfl) ?_
        refine mV_aload fL_law_744 rfl ?_
        refine mV_aloadS fL_law_745 rfl ?_
        refine mV_iload fL_law_746 rfl ?_
        refine mV_push fL_law_747 ?_
        refine mV_iadd fL_law_748 ?_
        obtain ⟨z117, hz117, hr⟩ := mBind hr
        refine mV_slO fL_law_749 hz117 ?_
        refine mV_aloadS fL_law_750 rfl ?_
        refine mV_iload fL_law_751 rfl ?_
        refine mV_push fL_law_752 ?_
        refine mV_iadd fL_law_753 ?_
        obtain ⟨z118, hz118, hr⟩ := mBind hr
        refine mV_slO fL_law_754 hz118 ?_
        obtain ⟨z119, hz119, hr⟩ := mBind hr
        refine mV_cV fL_law_755 tg_m10_book mCls10 (by decide) kk_119 (mC_deep (c10_book X I s z117 z118 hz119) (by decide)) rfl rfl (Nat.le_of_ble_eq_true rfl) ?_
        refine mV_icmp_eq fL_law_758 (fun h34 => ?_) (fun h34 => ?_)
        · rw [if_pos h34] at hr
          refine mV_iinc (y := (y3 + 6)) (L' := [.retAddr 2, .ref 0, .ref 119, .int (y3 + 6)]) fL_law_1386 rfl rfl (by decide) rfl rfl ?_
          refine mV_goto fL_law_1389 ?_
          obtain ⟨z120, hz120, hr⟩ := mBind hr
          exact ih (y3 + 6) s (mStO_ok hz120) z119.2 _ hr hq
        · rw [if_neg h34] at hr
          refine mV_push fL_law_761 ?_
          have hr := Option.some.inj hr; subst hr
          exact mV_iret rfl rfl fL_law_762 (hq _ _)
      rw [if_neg h33] at hr
      by_cases h35 : (z0 &&& 63) = 17
      · rw [if_pos h35] at hr
        refine mV_tabEq (v := 17) fL_law_33 h35 (by decide) (by decide) (by decide) (by decide : (33 : Int) + 730 = (763 : Nat)) ?_
        refine mV_aload fL_law_763 rfl ?_
        refine mV_aloadS fL_law_764 rfl ?_
        refine mV_iload fL_law_765 rfl ?_
        refine mV_push fL_law_766 ?_
        refine mV_iadd fL_law_767 ?_
        obtain ⟨z121, hz121, hr⟩ := mBind hr
        refine mV_slO fL_law_768 hz121 ?_
        refine mV_aloadS fL_law_769 rfl ?_
        refine mV_iload fL_law_770 rfl ?_
        refine mV_push fL_law_771 ?_
        refine mV_iadd fL_law_772 ?_
        obtain ⟨z122, hz122, hr⟩ := mBind hr
        refine mV_slO fL_law_773 hz122 ?_
        obtain ⟨z123, hz123, hr⟩ := mBind hr
        refine mV_cV fL_law_774 tg_m9_goes mCls9 (by decide) kk_0 (mC_deep (c9_goes X I s hs z121 z122 hz123) (by decide)) rfl rfl (Nat.le_of_ble_eq_true rfl) ?_
        refine mV_aload fL_law_777 rfl ?_
        refine mV_aloadS fL_law_778 rfl ?_
        refine mV_iload fL_law_779 rfl ?_
        refine mV_push fL_law_780 ?_
        refine mV_iadd fL_law_781 ?_
        obtain ⟨z124, hz124, hr⟩ := mBind hr
        refine mV_slO fL_law_782 hz124 ?_
        refine mV_aloadS fL_law_783 rfl ?_
        refine mV_iload fL_law_784 rfl ?_
        refine mV_push fL_law_785 ?_
        refine mV_iadd fL_law_786 ?_
        obtain ⟨z125, hz125, hr⟩ := mBind hr
        refine mV_slO fL_law_787 hz125 ?_
        obtain ⟨z126, hz126, hr⟩ := mBind hr
        refine mV_cV fL_law_788 tg_m10_goes mCls10 (by decide) kk_119 (mC_deep (c10_goes X z123.2.1 z123.2.2 z124 z125 hz126) (by decide)) rfl rfl (Nat.le_of_ble_eq_true rfl) ?_
        refine mV_icmp_eq fL_law_791 (fun h36 => ?_) (fun h36 => ?_)
        · rw [if_pos h36] at hr
          refine mV_iinc (y := (y3 + 6)) (L' := [.retAddr 2, .ref 0, .ref 119, .int (y3 + 6)]) fL_law_1386 rfl rfl (by decide) rfl rfl ?_
          refine mV_goto fL_law_1389 ?_
          obtain ⟨z127, hz127, hr⟩ := mBind hr
          exact ih (y3 + 6) z123.2.2 (mStO_ok hz127) z126.2 _ hr hq
        · rw [if_neg h36] at hr
          refine mV_push fL_law_794 ?_
          have hr := Option.some.inj hr; subst hr
          exact mV_iret rfl rfl fL_law_795 (hq _ _)
      rw [if_neg h35] at hr
      by_cases h37 : (z0 &&& 63) = 18
      · rw [if_pos h37] at hr
        refine mV_tabEq (v := 18) fL_law_33 h37 (by decide) (by decide) (by decide) (by decide : (33 : Int) + 763 = (796 : Nat)) ?_
        refine mV_aload fL_law_796 rfl ?_
        refine mV_aloadS fL_law_797 rfl ?_
        refine mV_iload fL_law_798 rfl ?_
        refine mV_push fL_law_799 ?_
        refine mV_iadd fL_law_800 ?_
        obtain ⟨z128, hz128, hr⟩ := mBind hr
        refine mV_slO fL_law_801 hz128 ?_
        refine mV_aloadS fL_law_802 rfl ?_
        refine mV_iload fL_law_803 rfl ?_
        refine mV_push fL_law_804 ?_
        refine mV_iadd fL_law_805 ?_
        obtain ⟨z129, hz129, hr⟩ := mBind hr
        refine mV_slO fL_law_806 hz129 ?_
        refine mV_aloadS fL_law_807 rfl ?_
        refine mV_iload fL_law_808 rfl ?_
        refine mV_push fL_law_809 ?_
        refine mV_iadd fL_law_810 ?_
        obtain ⟨z130, hz130, hr⟩ := mBind hr
        refine mV_slO fL_law_811 hz130 ?_
        obtain ⟨z131, hz131, hr⟩ := mBind hr
        refine mV_cV fL_law_812 tg_m9_lasts mCls9 (by decide) kk_0 (mC_deep (c9_lasts X I s hs z128 z129 z130 hz131) (by decide)) rfl rfl (Nat.le_of_ble_eq_true rfl) ?_
        refine mV_aload fL_law_815 rfl ?_
        refine mV_aloadS fL_law_816 rfl ?_
        refine mV_iload fL_law_817 rfl ?_
        refine mV_push fL_law_818 ?_
        refine mV_iadd fL_law_819 ?_
        obtain ⟨z132, hz132, hr⟩ := mBind hr
        refine mV_slO fL_law_820 hz132 ?_
        refine mV_aloadS fL_law_821 rfl ?_
        refine mV_iload fL_law_822 rfl ?_
        refine mV_push fL_law_823 ?_
        refine mV_iadd fL_law_824 ?_
        obtain ⟨z133, hz133, hr⟩ := mBind hr
        refine mV_slO fL_law_825 hz133 ?_
        refine mV_aloadS fL_law_826 rfl ?_
        refine mV_iload fL_law_827 rfl ?_
        refine mV_push fL_law_828 ?_
        refine mV_iadd fL_law_829 ?_
        obtain ⟨z134, hz134, hr⟩ := mBind hr
        refine mV_slO fL_law_830 hz134 ?_
        obtain ⟨z135, hz135, hr⟩ := mBind hr
        refine mV_cV fL_law_831 tg_m10_lasts mCls10 (by decide) kk_119 (mC_deep (c10_lasts X z131.2.1 z131.2.2 z132 z133 z134 hz135) (by decide)) rfl rfl (Nat.le_of_ble_eq_true rfl) ?_
        refine mV_icmp_eq fL_law_834 (fun h38 => ?_) (fun h38 => ?_)
        · rw [if_pos h38] at hr
          refine mV_iinc (y := (y3 + 6)) (L' := [.retAddr 2, .ref 0, .ref 119, .int (y3 + 6)]) fL_law_1386 rfl rfl (by decide) rfl rfl ?_
          refine mV_goto fL_law_1389 ?_
          obtain ⟨z136, hz136, hr⟩ := mBind hr
          exact ih (y3 + 6) z131.2.2 (mStO_ok hz136) z135.2 _ hr hq
        · rw [if_neg h38] at hr
          refine mV_push fL_law_837 ?_
          have hr := Option.some.inj hr; subst hr
          exact mV_iret rfl rfl fL_law_838 (hq _ _)
      rw [if_neg h37] at hr
      by_cases h39 : (z0 &&& 63) = 19
      · rw [if_pos h39] at hr
        refine mV_tabEq (v := 19) fL_law_33 h39 (by decide) (by decide) (by decide) (by decide : (33 : Int) + 806 = (839 : Nat)) ?_
        refine mV_aload fL_law_839 rfl ?_
        refine mV_aloadS fL_law_840 rfl ?_
        refine mV_iload fL_law_841 rfl ?_
        refine mV_push fL_law_842 ?_
        refine mV_iadd fL_law_843 ?_
        obtain ⟨z137, hz137, hr⟩ := mBind hr
        refine mV_slO fL_law_844 hz137 ?_
        refine mV_aloadS fL_law_845 rfl ?_
        refine mV_iload fL_law_846 rfl ?_
        refine mV_push fL_law_847 ?_
        refine mV_iadd fL_law_848 ?_
        obtain ⟨z138, hz138, hr⟩ := mBind hr
        refine mV_slO fL_law_849 hz138 ?_
        refine mV_aloadS fL_law_850 rfl ?_
        refine mV_iload fL_law_851 rfl ?_
        refine mV_push fL_law_852 ?_
        refine mV_iadd fL_law_853 ?_
        obtain ⟨z139, hz139, hr⟩ := mBind hr
        refine mV_slO fL_law_854 hz139 ?_
        obtain ⟨z140, hz140, hr⟩ := mBind hr
        refine mV_cV fL_law_855 tg_m9_chords mCls9 (by decide) kk_0 (mC_deep (c9_chords X I s z137 z138 z139 hz140) (by decide)) rfl rfl (Nat.le_of_ble_eq_true rfl) ?_
        refine mV_aload fL_law_858 rfl ?_
        refine mV_aloadS fL_law_859 rfl ?_
        refine mV_iload fL_law_860 rfl ?_
        refine mV_push fL_law_861 ?_
        refine mV_iadd fL_law_862 ?_
        obtain ⟨z141, hz141, hr⟩ := mBind hr
        refine mV_slO fL_law_863 hz141 ?_
        refine mV_aloadS fL_law_864 rfl ?_
        refine mV_iload fL_law_865 rfl ?_
        refine mV_push fL_law_866 ?_
        refine mV_iadd fL_law_867 ?_
        obtain ⟨z142, hz142, hr⟩ := mBind hr
        refine mV_slO fL_law_868 hz142 ?_
        refine mV_aloadS fL_law_869 rfl ?_
        refine mV_iload fL_law_870 rfl ?_
        refine mV_push fL_law_871 ?_
        refine mV_iadd fL_law_872 ?_
        obtain ⟨z143, hz143, hr⟩ := mBind hr
        refine mV_slO fL_law_873 hz143 ?_
        obtain ⟨z144, hz144, hr⟩ := mBind hr
        refine mV_cV fL_law_874 tg_m10_chords mCls10 (by decide) kk_119 (mC_deep (c10_chords X I s z141 z142 z143 hz144) (by decide)) rfl rfl (Nat.le_of_ble_eq_true rfl) ?_
        refine mV_icmp_eq fL_law_877 (fun h40 => ?_) (fun h40 => ?_)
        · rw [if_pos h40] at hr
          refine mV_iinc (y := (y3 + 6)) (L' := [.retAddr 2, .ref 0, .ref 119, .int (y3 + 6)]) fL_law_1386 rfl rfl (by decide) rfl rfl ?_
          refine mV_goto fL_law_1389 ?_
          obtain ⟨z145, hz145, hr⟩ := mBind hr
          exact ih (y3 + 6) s (mStO_ok hz145) z144.2 _ hr hq
        · rw [if_neg h40] at hr
          refine mV_push fL_law_880 ?_
          have hr := Option.some.inj hr; subst hr
          exact mV_iret rfl rfl fL_law_881 (hq _ _)
      rw [if_neg h39] at hr
      by_cases h41 : (z0 &&& 63) = 20
      · rw [if_pos h41] at hr
        refine mV_tabEq (v := 20) fL_law_33 h41 (by decide) (by decide) (by decide) (by decide : (33 : Int) + 849 = (882 : Nat)) ?_
        refine mV_aload fL_law_882 rfl ?_
        refine mV_aloadS fL_law_883 rfl ?_
        refine mV_iload fL_law_884 rfl ?_
        refine mV_push fL_law_885 ?_
        refine mV_iadd fL_law_886 ?_
        obtain ⟨z146, hz146, hr⟩ := mBind hr
        refine mV_slO fL_law_887 hz146 ?_
        obtain ⟨z147, hz147, hr⟩ := mBind hr
        refine mV_cV fL_law_888 tg_m9_tone mCls9 (by decide) kk_0 (mC_deep (c9_tone X I s z146 hz147) (by decide)) rfl rfl (Nat.le_of_ble_eq_true rfl) ?_
        refine mV_aload fL_law_891 rfl ?_
        refine mV_aloadS fL_law_892 rfl ?_
        refine mV_iload fL_law_893 rfl ?_
        refine mV_push fL_law_894 ?_
        refine mV_iadd fL_law_895 ?_
        obtain ⟨z148, hz148, hr⟩ := mBind hr
        refine mV_slO fL_law_896 hz148 ?_
        obtain ⟨z149, hz149, hr⟩ := mBind hr
        refine mV_cV fL_law_897 tg_m10_tone mCls10 (by decide) kk_119 (mC_deep (c10_tone X z147.2 s z148 hz149) (by decide)) rfl rfl (Nat.le_of_ble_eq_true rfl) ?_
        refine mV_icmp_eq fL_law_900 (fun h42 => ?_) (fun h42 => ?_)
        · rw [if_pos h42] at hr
          refine mV_iinc (y := (y3 + 6)) (L' := [.retAddr 2, .ref 0, .ref 119, .int (y3 + 6)]) fL_law_1386 rfl rfl (by decide) rfl rfl ?_
          refine mV_goto fL_law_1389 ?_
          obtain ⟨z150, hz150, hr⟩ := mBind hr
          exact ih (y3 + 6) s (mStO_ok hz150) z149.2 _ hr hq
        · rw [if_neg h42] at hr
          refine mV_push fL_law_903 ?_
          have hr := Option.some.inj hr; subst hr
          exact mV_iret rfl rfl fL_law_904 (hq _ _)
      rw [if_neg h41] at hr
      by_cases h43 : (z0 &&& 63) = 21
      · rw [if_pos h43] at hr
        refine mV_tabEq (v := 21) fL_law_33 h43 (by decide) (by decide) (by decide) (by decide : (33 : Int) + 872 = (905 : Nat)) ?_
        refine mV_aload fL_law_905 rfl ?_
        refine mV_aloadS fL_law_906 rfl ?_
        refine mV_iload fL_law_907 rfl ?_
        refine mV_push fL_law_908 ?_
        refine mV_iadd fL_law_909 ?_
        obtain ⟨z151, hz151, hr⟩ := mBind hr
        refine mV_slO fL_law_910 hz151 ?_
        obtain ⟨z152, hz152, hr⟩ := mBind hr
        refine mV_cV fL_law_911 tg_m9_tune mCls9 (by decide) kk_0 (mC_deep (c9_tune X I s z151 hz152) (by decide)) rfl rfl (Nat.le_of_ble_eq_true rfl) ?_
        refine mV_aload fL_law_914 rfl ?_
        refine mV_aloadS fL_law_915 rfl ?_
        refine mV_iload fL_law_916 rfl ?_
        refine mV_push fL_law_917 ?_
        refine mV_iadd fL_law_918 ?_
        obtain ⟨z153, hz153, hr⟩ := mBind hr
        refine mV_slO fL_law_919 hz153 ?_
        obtain ⟨z154, hz154, hr⟩ := mBind hr
        refine mV_cV fL_law_920 tg_m10_tune mCls10 (by decide) kk_119 (mC_deep (c10_tune X z152.2 s z153 hz154) (by decide)) rfl rfl (Nat.le_of_ble_eq_true rfl) ?_
        refine mV_icmp_eq fL_law_923 (fun h44 => ?_) (fun h44 => ?_)
        · rw [if_pos h44] at hr
          refine mV_iinc (y := (y3 + 6)) (L' := [.retAddr 2, .ref 0, .ref 119, .int (y3 + 6)]) fL_law_1386 rfl rfl (by decide) rfl rfl ?_
          refine mV_goto fL_law_1389 ?_
          obtain ⟨z155, hz155, hr⟩ := mBind hr
          exact ih (y3 + 6) s (mStO_ok hz155) z154.2 _ hr hq
        · rw [if_neg h44] at hr
          refine mV_push fL_law_926 ?_
          have hr := Option.some.inj hr; subst hr
          exact mV_iret rfl rfl fL_law_927 (hq _ _)
      rw [if_neg h43] at hr
      by_cases h45 : (z0 &&& 63) = 22
      · rw [if_pos h45] at hr
        refine mV_tabEq (v := 22) fL_law_33 h45 (by decide) (by decide) (by decide) (by decide : (33 : Int) + 895 = (928 : Nat)) ?_
        refine mV_aload fL_law_928 rfl ?_
        refine mV_aloadS fL_law_929 rfl ?_
        refine mV_iload fL_law_930 rfl ?_
        refine mV_push fL_law_931 ?_
        refine mV_iadd fL_law_932 ?_
        obtain ⟨z156, hz156, hr⟩ := mBind hr
        refine mV_slO fL_law_933 hz156 ?_
        refine mV_aloadS fL_law_934 rfl ?_
        refine mV_iload fL_law_935 rfl ?_
        refine mV_push fL_law_936 ?_
        refine mV_iadd fL_law_937 ?_
        obtain ⟨z157, hz157, hr⟩ := mBind hr
        refine mV_slO fL_law_938 hz157 ?_
        refine mV_aloadS fL_law_939 rfl ?_
        refine mV_iload fL_law_940 rfl ?_
        refine mV_push fL_law_941 ?_
        refine mV_iadd fL_law_942 ?_
        obtain ⟨z158, hz158, hr⟩ := mBind hr
        refine mV_slO fL_law_943 hz158 ?_
        obtain ⟨z159, hz159, hr⟩ := mBind hr
        refine mV_cV fL_law_944 tg_m9_canon mCls9 (by decide) kk_0 (mC_deep (c9_canon X I s z156 z157 z158 hz159) (by decide)) rfl rfl (Nat.le_of_ble_eq_true rfl) ?_
        refine mV_aload fL_law_947 rfl ?_
        refine mV_aloadS fL_law_948 rfl ?_
        refine mV_iload fL_law_949 rfl ?_
        refine mV_push fL_law_950 ?_
        refine mV_iadd fL_law_951 ?_
        obtain ⟨z160, hz160, hr⟩ := mBind hr
        refine mV_slO fL_law_952 hz160 ?_
        refine mV_aloadS fL_law_953 rfl ?_
        refine mV_iload fL_law_954 rfl ?_
        refine mV_push fL_law_955 ?_
        refine mV_iadd fL_law_956 ?_
        obtain ⟨z161, hz161, hr⟩ := mBind hr
        refine mV_slO fL_law_957 hz161 ?_
        refine mV_aloadS fL_law_958 rfl ?_
        refine mV_iload fL_law_959 rfl ?_
        refine mV_push fL_law_960 ?_
        refine mV_iadd fL_law_961 ?_
        obtain ⟨z162, hz162, hr⟩ := mBind hr
        refine mV_slO fL_law_962 hz162 ?_
        obtain ⟨z163, hz163, hr⟩ := mBind hr
        refine mV_cV fL_law_963 tg_m10_canon mCls10 (by decide) kk_119 (mC_deep (c10_canon X I s z160 z161 z162 hz163) (by decide)) rfl rfl (Nat.le_of_ble_eq_true rfl) ?_
        refine mV_icmp_eq fL_law_966 (fun h46 => ?_) (fun h46 => ?_)
        · rw [if_pos h46] at hr
          refine mV_iinc (y := (y3 + 6)) (L' := [.retAddr 2, .ref 0, .ref 119, .int (y3 + 6)]) fL_law_1386 rfl rfl (by decide) rfl rfl ?_
          refine mV_goto fL_law_1389 ?_
          obtain ⟨z164, hz164, hr⟩ := mBind hr
          exact ih (y3 + 6) s (mStO_ok hz164) z163.2 _ hr hq
        · rw [if_neg h46] at hr
          refine mV_push fL_law_969 ?_
          have hr := Option.some.inj hr; subst hr
          exact mV_iret rfl rfl fL_law_970 (hq _ _)
      rw [if_neg h45] at hr
      by_cases h47 : (z0 &&& 63) = 23
      · rw [if_pos h47] at hr
        refine mV_tabEq (v := 23) fL_law_33 h47 (by decide) (by decide) (by decide) (by decide : (33 : Int) + 938 = (971 : Nat)) ?_
        refine mV_aload fL_law_971 rfl ?_
        refine mV_aloadS fL_law_972 rfl ?_
        refine mV_iload fL_law_973 rfl ?_
        refine mV_push fL_law_974 ?_
        refine mV_iadd fL_law_975 ?_
        obtain ⟨z165, hz165, hr⟩ := mBind hr
        refine mV_slO fL_law_976 hz165 ?_
        refine mV_aloadS fL_law_977 rfl ?_
        refine mV_iload fL_law_978 rfl ?_
        refine mV_push fL_law_979 ?_
        refine mV_iadd fL_law_980 ?_
        obtain ⟨z166, hz166, hr⟩ := mBind hr
        refine mV_slO fL_law_981 hz166 ?_
        refine mV_aloadS fL_law_982 rfl ?_
        refine mV_iload fL_law_983 rfl ?_
        refine mV_push fL_law_984 ?_
        refine mV_iadd fL_law_985 ?_
        obtain ⟨z167, hz167, hr⟩ := mBind hr
        refine mV_slO fL_law_986 hz167 ?_
        obtain ⟨z168, hz168, hr⟩ := mBind hr
        refine mV_cV fL_law_987 tg_m9_bar mCls9 (by decide) kk_0 (mC_deep (c9_bar X I s z165 z166 z167 hz168) (by decide)) rfl rfl (Nat.le_of_ble_eq_true rfl) ?_
        refine mV_aload fL_law_990 rfl ?_
        refine mV_aloadS fL_law_991 rfl ?_
        refine mV_iload fL_law_992 rfl ?_
        refine mV_push fL_law_993 ?_
        refine mV_iadd fL_law_994 ?_
        obtain ⟨z169, hz169, hr⟩ := mBind hr
        refine mV_slO fL_law_995 hz169 ?_
        refine mV_aloadS fL_law_996 rfl ?_
        refine mV_iload fL_law_997 rfl ?_
        refine mV_push fL_law_998 ?_
        refine mV_iadd fL_law_999 ?_
        obtain ⟨z170, hz170, hr⟩ := mBind hr
        refine mV_slO fL_law_1000 hz170 ?_
        refine mV_aloadS fL_law_1001 rfl ?_
        refine mV_iload fL_law_1002 rfl ?_
        refine mV_push fL_law_1003 ?_
        refine mV_iadd fL_law_1004 ?_
        obtain ⟨z171, hz171, hr⟩ := mBind hr
        refine mV_slO fL_law_1005 hz171 ?_
        obtain ⟨z172, hz172, hr⟩ := mBind hr
        refine mV_cV fL_law_1006 tg_m10_bar mCls10 (by decide) kk_119 (mC_deep (c10_bar X z168.2 s z169 z170 z171 hz172) (by decide)) rfl rfl (Nat.le_of_ble_eq_true rfl) ?_
        refine mV_icmp_eq fL_law_1009 (fun h48 => ?_) (fun h48 => ?_)
        · rw [if_pos h48] at hr
          refine mV_iinc (y := (y3 + 6)) (L' := [.retAddr 2, .ref 0, .ref 119, .int (y3 + 6)]) fL_law_1386 rfl rfl (by decide) rfl rfl ?_
          refine mV_goto fL_law_1389 ?_
          obtain ⟨z173, hz173, hr⟩ := mBind hr
          exact ih (y3 + 6) s (mStO_ok hz173) z172.2 _ hr hq
        · rw [if_neg h48] at hr
          refine mV_push fL_law_1012 ?_
          have hr := Option.some.inj hr; subst hr
          exact mV_iret rfl rfl fL_law_1013 (hq _ _)
      rw [if_neg h47] at hr
      by_cases h49 : (z0 &&& 63) = 24
      · rw [if_pos h49] at hr
        refine mV_tabEq (v := 24) fL_law_33 h49 (by decide) (by decide) (by decide) (by decide : (33 : Int) + 981 = (1014 : Nat)) ?_
        refine mV_aload fL_law_1014 rfl ?_
        refine mV_aloadS fL_law_1015 rfl ?_
        refine mV_iload fL_law_1016 rfl ?_
        refine mV_push fL_law_1017 ?_
        refine mV_iadd fL_law_1018 ?_
        obtain ⟨z174, hz174, hr⟩ := mBind hr
        refine mV_slO fL_law_1019 hz174 ?_
        refine mV_aloadS fL_law_1020 rfl ?_
        refine mV_iload fL_law_1021 rfl ?_
        refine mV_push fL_law_1022 ?_
        refine mV_iadd fL_law_1023 ?_
        obtain ⟨z175, hz175, hr⟩ := mBind hr
        refine mV_slO fL_law_1024 hz175 ?_
        obtain ⟨z176, hz176, hr⟩ := mBind hr
        refine mV_cV fL_law_1025 tg_m9_period mCls9 (by decide) kk_0 (mC_deep (c9_period X I s z174 z175 hz176) (by decide)) rfl rfl (Nat.le_of_ble_eq_true rfl) ?_
        refine mV_aload fL_law_1028 rfl ?_
        refine mV_aloadS fL_law_1029 rfl ?_
        refine mV_iload fL_law_1030 rfl ?_
        refine mV_push fL_law_1031 ?_
        refine mV_iadd fL_law_1032 ?_
        obtain ⟨z177, hz177, hr⟩ := mBind hr
        refine mV_slO fL_law_1033 hz177 ?_
        refine mV_aloadS fL_law_1034 rfl ?_
        refine mV_iload fL_law_1035 rfl ?_
        refine mV_push fL_law_1036 ?_
        refine mV_iadd fL_law_1037 ?_
        obtain ⟨z178, hz178, hr⟩ := mBind hr
        refine mV_slO fL_law_1038 hz178 ?_
        obtain ⟨z179, hz179, hr⟩ := mBind hr
        refine mV_cV fL_law_1039 tg_m10_period mCls10 (by decide) kk_119 (mC_deep (c10_period X z176.2 s z177 z178 hz179) (by decide)) rfl rfl (Nat.le_of_ble_eq_true rfl) ?_
        refine mV_icmp_eq fL_law_1042 (fun h50 => ?_) (fun h50 => ?_)
        · rw [if_pos h50] at hr
          refine mV_iinc (y := (y3 + 6)) (L' := [.retAddr 2, .ref 0, .ref 119, .int (y3 + 6)]) fL_law_1386 rfl rfl (by decide) rfl rfl ?_
          refine mV_goto fL_law_1389 ?_
          obtain ⟨z180, hz180, hr⟩ := mBind hr
          exact ih (y3 + 6) s (mStO_ok hz180) z179.2 _ hr hq
        · rw [if_neg h50] at hr
          refine mV_push fL_law_1045 ?_
          have hr := Option.some.inj hr; subst hr
          exact mV_iret rfl rfl fL_law_1046 (hq _ _)
      rw [if_neg h49] at hr
      by_cases h51 : (z0 &&& 63) = 25
      · rw [if_pos h51] at hr
        refine mV_tabEq (v := 25) fL_law_33 h51 (by decide) (by decide) (by decide) (by decide : (33 : Int) + 1014 = (1047 : Nat)) ?_
        refine mV_aload fL_law_1047 rfl ?_
        refine mV_aloadS fL_law_1048 rfl ?_
        refine mV_iload fL_law_1049 rfl ?_
        refine mV_push fL_law_1050 ?_
        refine mV_iadd fL_law_1051 ?_
        obtain ⟨z181, hz181, hr⟩ := mBind hr
        refine mV_slO fL_law_1052 hz181 ?_
        refine mV_aloadS fL_law_1053 rfl ?_
        refine mV_iload fL_law_1054 rfl ?_
        refine mV_push fL_law_1055 ?_
        refine mV_iadd fL_law_1056 ?_
        obtain ⟨z182, hz182, hr⟩ := mBind hr
        refine mV_slO fL_law_1057 hz182 ?_
        obtain ⟨z183, hz183, hr⟩ := mBind hr
        refine mV_cV fL_law_1058 tg_m9_beats mCls9 (by decide) kk_0 (mC_deep (c9_beats X I s z181 z182 hz183) (by decide)) rfl rfl (Nat.le_of_ble_eq_true rfl) ?_
        refine mV_aload fL_law_1061 rfl ?_
        refine mV_aloadS fL_law_1062 rfl ?_
        refine mV_iload fL_law_1063 rfl ?_
        refine mV_push fL_law_1064 ?_
        refine mV_iadd fL_law_1065 ?_
        obtain ⟨z184, hz184, hr⟩ := mBind hr
        refine mV_slO fL_law_1066 hz184 ?_
        refine mV_aloadS fL_law_1067 rfl ?_
        refine mV_iload fL_law_1068 rfl ?_
        refine mV_push fL_law_1069 ?_
        refine mV_iadd fL_law_1070 ?_
        obtain ⟨z185, hz185, hr⟩ := mBind hr
        refine mV_slO fL_law_1071 hz185 ?_
        obtain ⟨z186, hz186, hr⟩ := mBind hr
        refine mV_cV fL_law_1072 tg_m10_beats mCls10 (by decide) kk_119 (mC_deep (c10_beats X I s z184 z185 hz186) (by decide)) rfl rfl (Nat.le_of_ble_eq_true rfl) ?_
        refine mV_icmp_eq fL_law_1075 (fun h52 => ?_) (fun h52 => ?_)
        · rw [if_pos h52] at hr
          refine mV_iinc (y := (y3 + 6)) (L' := [.retAddr 2, .ref 0, .ref 119, .int (y3 + 6)]) fL_law_1386 rfl rfl (by decide) rfl rfl ?_
          refine mV_goto fL_law_1389 ?_
          obtain ⟨z187, hz187, hr⟩ := mBind hr
          exact ih (y3 + 6) s (mStO_ok hz187) z186.2 _ hr hq
        · rw [if_neg h52] at hr
          refine mV_push fL_law_1078 ?_
          have hr := Option.some.inj hr; subst hr
          exact mV_iret rfl rfl fL_law_1079 (hq _ _)
      rw [if_neg h51] at hr
      by_cases h53 : (z0 &&& 63) = 26
      · rw [if_pos h53] at hr
        refine mV_tabEq (v := 26) fL_law_33 h53 (by decide) (by decide) (by decide) (by decide : (33 : Int) + 1047 = (1080 : Nat)) ?_
        refine mV_aload fL_law_1080 rfl ?_
        refine mV_aloadS fL_law_1081 rfl ?_
        refine mV_iload fL_law_1082 rfl ?_
        refine mV_push fL_law_1083 ?_
        refine mV_iadd fL_law_1084 ?_
        obtain ⟨z188, hz188, hr⟩ := mBind hr
        refine mV_slO fL_law_1085 hz188 ?_
        refine mV_aloadS fL_law_1086 rfl ?_
        refine mV_iload fL_law_1087 rfl ?_
        refine mV_push fL_law_1088 ?_
        refine mV_iadd fL_law_1089 ?_
        obtain ⟨z189, hz189, hr⟩ := mBind hr
        refine mV_slO fL_law_1090 hz189 ?_
        refine mV_aloadS fL_law_1091 rfl ?_
        refine mV_iload fL_law_1092 rfl ?_
        refine mV_push fL_law_1093 ?_
        refine mV_iadd fL_law_1094 ?_
        obtain ⟨z190, hz190, hr⟩ := mBind hr
        refine mV_slO fL_law_1095 hz190 ?_
        obtain ⟨z191, hz191, hr⟩ := mBind hr
        refine mV_cV fL_law_1096 tg_m9_pedal mCls9 (by decide) kk_0 (mC_deep (c9_pedal X I s z188 z189 z190 hz191) (by decide)) rfl rfl (Nat.le_of_ble_eq_true rfl) ?_
        refine mV_aload fL_law_1099 rfl ?_
        refine mV_aloadS fL_law_1100 rfl ?_
        refine mV_iload fL_law_1101 rfl ?_
        refine mV_push fL_law_1102 ?_
        refine mV_iadd fL_law_1103 ?_
        obtain ⟨z192, hz192, hr⟩ := mBind hr
        refine mV_slO fL_law_1104 hz192 ?_
        refine mV_aloadS fL_law_1105 rfl ?_
        refine mV_iload fL_law_1106 rfl ?_
        refine mV_push fL_law_1107 ?_
        refine mV_iadd fL_law_1108 ?_
        obtain ⟨z193, hz193, hr⟩ := mBind hr
        refine mV_slO fL_law_1109 hz193 ?_
        refine mV_aloadS fL_law_1110 rfl ?_
        refine mV_iload fL_law_1111 rfl ?_
        refine mV_push fL_law_1112 ?_
        refine mV_iadd fL_law_1113 ?_
        obtain ⟨z194, hz194, hr⟩ := mBind hr
        refine mV_slO fL_law_1114 hz194 ?_
        obtain ⟨z195, hz195, hr⟩ := mBind hr
        refine mV_cV fL_law_1115 tg_m10_pedal mCls10 (by decide) kk_119 (mC_deep (c10_pedal X z191.2 s z192 z193 z194 hz195) (by decide)) rfl rfl (Nat.le_of_ble_eq_true rfl) ?_
        refine mV_icmp_eq fL_law_1118 (fun h54 => ?_) (fun h54 => ?_)
        · rw [if_pos h54] at hr
          refine mV_iinc (y := (y3 + 6)) (L' := [.retAddr 2, .ref 0, .ref 119, .int (y3 + 6)]) fL_law_1386 rfl rfl (by decide) rfl rfl ?_
          refine mV_goto fL_law_1389 ?_
          obtain ⟨z196, hz196, hr⟩ := mBind hr
          exact ih (y3 + 6) s (mStO_ok hz196) z195.2 _ hr hq
        · rw [if_neg h54] at hr
          refine mV_push fL_law_1121 ?_
          have hr := Option.some.inj hr; subst hr
          exact mV_iret rfl rfl fL_law_1122 (hq _ _)
      rw [if_neg h53] at hr
      by_cases h55 : (z0 &&& 63) = 27
      · rw [if_pos h55] at hr
        refine mV_tabEq (v := 27) fL_law_33 h55 (by decide) (by decide) (by decide) (by decide : (33 : Int) + 1090 = (1123 : Nat)) ?_
        refine mV_aload fL_law_1123 rfl ?_
        refine mV_aloadS fL_law_1124 rfl ?_
        refine mV_iload fL_law_1125 rfl ?_
        refine mV_push fL_law_1126 ?_
        refine mV_iadd fL_law_1127 ?_
        obtain ⟨z197, hz197, hr⟩ := mBind hr
        refine mV_slO fL_law_1128 hz197 ?_
        obtain ⟨z198, hz198, hr⟩ := mBind hr
        refine mV_cV fL_law_1129 tg_m9_mud mCls9 (by decide) kk_0 (mC_deep (c9_mud X I s z197 hz198) (by decide)) rfl rfl (Nat.le_of_ble_eq_true rfl) ?_
        refine mV_aload fL_law_1132 rfl ?_
        refine mV_aloadS fL_law_1133 rfl ?_
        refine mV_iload fL_law_1134 rfl ?_
        refine mV_push fL_law_1135 ?_
        refine mV_iadd fL_law_1136 ?_
        obtain ⟨z199, hz199, hr⟩ := mBind hr
        refine mV_slO fL_law_1137 hz199 ?_
        obtain ⟨z200, hz200, hr⟩ := mBind hr
        refine mV_cV fL_law_1138 tg_m10_mud mCls10 (by decide) kk_119 (mC_deep (c10_mud X I s z199 hz200) (by decide)) rfl rfl (Nat.le_of_ble_eq_true rfl) ?_
        refine mV_icmp_eq fL_law_1141 (fun h56 => ?_) (fun h56 => ?_)
        · rw [if_pos h56] at hr
          refine mV_iinc (y := (y3 + 6)) (L' := [.retAddr 2, .ref 0, .ref 119, .int (y3 + 6)]) fL_law_1386 rfl rfl (by decide) rfl rfl ?_
          refine mV_goto fL_law_1389 ?_
          obtain ⟨z201, hz201, hr⟩ := mBind hr
          exact ih (y3 + 6) s (mStO_ok hz201) z200.2 _ hr hq
        · rw [if_neg h56] at hr
          refine mV_push fL_law_1144 ?_
          have hr := Option.some.inj hr; subst hr
          exact mV_iret rfl rfl fL_law_1145 (hq _ _)
      rw [if_neg h55] at hr
      by_cases h57 : (z0 &&& 63) = 28
      · rw [if_pos h57] at hr
        refine mV_tabEq (v := 28) fL_law_33 h57 (by decide) (by decide) (by decide) (by decide : (33 : Int) + 1113 = (1146 : Nat)) ?_
        refine mV_aload fL_law_1146 rfl ?_
        refine mV_aloadS fL_law_1147 rfl ?_
        refine mV_iload fL_law_1148 rfl ?_
        refine mV_push fL_law_1149 ?_
        refine mV_iadd fL_law_1150 ?_
        obtain ⟨z202, hz202, hr⟩ := mBind hr
        refine mV_slO fL_law_1151 hz202 ?_
        refine mV_aloadS fL_law_1152 rfl ?_
        refine mV_iload fL_law_1153 rfl ?_
        refine mV_push fL_law_1154 ?_
        refine mV_iadd fL_law_1155 ?_
        obtain ⟨z203, hz203, hr⟩ := mBind hr
        refine mV_slO fL_law_1156 hz203 ?_
        obtain ⟨z204, hz204, hr⟩ := mBind hr
        refine mV_cV fL_law_1157 tg_m9_whose mCls9 (by decide) kk_0 (mC_deep (c9_whose X I s z202 z203 hz204) (by decide)) rfl rfl (Nat.le_of_ble_eq_true rfl) ?_
        refine mV_aload fL_law_1160 rfl ?_
        refine mV_aloadS fL_law_1161 rfl ?_
        refine mV_iload fL_law_1162 rfl ?_
        refine mV_push fL_law_1163 ?_
        refine mV_iadd fL_law_1164 ?_
        obtain ⟨z205, hz205, hr⟩ := mBind hr
        refine mV_slO fL_law_1165 hz205 ?_
        refine mV_aloadS fL_law_1166 rfl ?_
        refine mV_iload fL_law_1167 rfl ?_
        refine mV_push fL_law_1168 ?_
        refine mV_iadd fL_law_1169 ?_
        obtain ⟨z206, hz206, hr⟩ := mBind hr
        refine mV_slO fL_law_1170 hz206 ?_
        obtain ⟨z207, hz207, hr⟩ := mBind hr
        refine mV_cV fL_law_1171 tg_m10_whose mCls10 (by decide) kk_119 (mC_deep (c10_whose X I s z205 z206 hz207) (by decide)) rfl rfl (Nat.le_of_ble_eq_true rfl) ?_
        refine mV_icmp_eq fL_law_1174 (fun h58 => ?_) (fun h58 => ?_)
        · rw [if_pos h58] at hr
          refine mV_iinc (y := (y3 + 6)) (L' := [.retAddr 2, .ref 0, .ref 119, .int (y3 + 6)]) fL_law_1386 rfl rfl (by decide) rfl rfl ?_
          refine mV_goto fL_law_1389 ?_
          obtain ⟨z208, hz208, hr⟩ := mBind hr
          exact ih (y3 + 6) s (mStO_ok hz208) z207.2 _ hr hq
        · rw [if_neg h58] at hr
          refine mV_push fL_law_1177 ?_
          have hr := Option.some.inj hr; subst hr
          exact mV_iret rfl rfl fL_law_1178 (hq _ _)
      rw [if_neg h57] at hr
      by_cases h59 : (z0 &&& 63) = 29
      · rw [if_pos h59] at hr
        refine mV_tabEq (v := 29) fL_law_33 h59 (by decide) (by decide) (by decide) (by decide : (33 : Int) + 1146 = (1179 : Nat)) ?_
        refine mV_aload fL_law_1179 rfl ?_
        refine mV_aloadS fL_law_1180 rfl ?_
        refine mV_iload fL_law_1181 rfl ?_
        refine mV_push fL_law_1182 ?_
        refine mV_iadd fL_law_1183 ?_
        obtain ⟨z209, hz209, hr⟩ := mBind hr
        refine mV_slO fL_law_1184 hz209 ?_
        refine mV_aloadS fL_law_1185 rfl ?_
        refine mV_iload fL_law_1186 rfl ?_
        refine mV_push fL_law_1187 ?_
        refine mV_iadd fL_law_1188 ?_
        obtain ⟨z210, hz210, hr⟩ := mBind hr
        refine mV_slO fL_law_1189 hz210 ?_
        obtain ⟨z211, hz211, hr⟩ := mBind hr
        refine mV_cV fL_law_1190 tg_m9_have mCls9 (by decide) kk_0 (mC_deep (c9_have X I s z209 z210 hz211) (by decide)) rfl rfl (Nat.le_of_ble_eq_true rfl) ?_
        refine mV_aload fL_law_1193 rfl ?_
        refine mV_aloadS fL_law_1194 rfl ?_
        refine mV_iload fL_law_1195 rfl ?_
        refine mV_push fL_law_1196 ?_
        refine mV_iadd fL_law_1197 ?_
        obtain ⟨z212, hz212, hr⟩ := mBind hr
        refine mV_slO fL_law_1198 hz212 ?_
        refine mV_aloadS fL_law_1199 rfl ?_
        refine mV_iload fL_law_1200 rfl ?_
        refine mV_push fL_law_1201 ?_
        refine mV_iadd fL_law_1202 ?_
        obtain ⟨z213, hz213, hr⟩ := mBind hr
        refine mV_slO fL_law_1203 hz213 ?_
        obtain ⟨z214, hz214, hr⟩ := mBind hr
        refine mV_cV fL_law_1204 tg_m10_have mCls10 (by decide) kk_119 (mC_deep (c10_have X z211.2 s z212 z213 hz214) (by decide)) rfl rfl (Nat.le_of_ble_eq_true rfl) ?_
        refine mV_icmp_eq fL_law_1207 (fun h60 => ?_) (fun h60 => ?_)
        · rw [if_pos h60] at hr
          refine mV_iinc (y := (y3 + 6)) (L' := [.retAddr 2, .ref 0, .ref 119, .int (y3 + 6)]) fL_law_1386 rfl rfl (by decide) rfl rfl ?_
          refine mV_goto fL_law_1389 ?_
          obtain ⟨z215, hz215, hr⟩ := mBind hr
          exact ih (y3 + 6) s (mStO_ok hz215) z214.2 _ hr hq
        · rw [if_neg h60] at hr
          refine mV_push fL_law_1210 ?_
          have hr := Option.some.inj hr; subst hr
          exact mV_iret rfl rfl fL_law_1211 (hq _ _)
      rw [if_neg h59] at hr
      by_cases h61 : (z0 &&& 63) = 30
      · rw [if_pos h61] at hr
        refine mV_tabEq (v := 30) fL_law_33 h61 (by decide) (by decide) (by decide) (by decide : (33 : Int) + 1179 = (1212 : Nat)) ?_
        refine mV_aload fL_law_1212 rfl ?_
        refine mV_aloadS fL_law_1213 rfl ?_
        refine mV_iload fL_law_1214 rfl ?_
        refine mV_push fL_law_1215 ?_
        refine mV_iadd fL_law_1216 ?_
        obtain ⟨z216, hz216, hr⟩ := mBind hr
        refine mV_slO fL_law_1217 hz216 ?_
        obtain ⟨z217, hz217, hr⟩ := mBind hr
        refine mV_cV fL_law_1218 tg_m9_alike mCls9 (by decide) kk_0 (mC_deep (c9_alike X I s z216 hz217) (by decide)) rfl rfl (Nat.le_of_ble_eq_true rfl) ?_
        refine mV_aload fL_law_1221 rfl ?_
        refine mV_aloadS fL_law_1222 rfl ?_
        refine mV_iload fL_law_1223 rfl ?_
        refine mV_push fL_law_1224 ?_
        refine mV_iadd fL_law_1225 ?_
        obtain ⟨z218, hz218, hr⟩ := mBind hr
        refine mV_slO fL_law_1226 hz218 ?_
        obtain ⟨z219, hz219, hr⟩ := mBind hr
        refine mV_cV fL_law_1227 tg_m10_alike mCls10 (by decide) kk_119 (mC_deep (c10_alike X I s z218 hz219) (by decide)) rfl rfl (Nat.le_of_ble_eq_true rfl) ?_
        refine mV_icmp_eq fL_law_1230 (fun h62 => ?_) (fun h62 => ?_)
        · rw [if_pos h62] at hr
          refine mV_iinc (y := (y3 + 6)) (L' := [.retAddr 2, .ref 0, .ref 119, .int (y3 + 6)]) fL_law_1386 rfl rfl (by decide) rfl rfl ?_
          refine mV_goto fL_law_1389 ?_
          obtain ⟨z220, hz220, hr⟩ := mBind hr
          exact ih (y3 + 6) s (mStO_ok hz220) z219.2 _ hr hq
        · rw [if_neg h62] at hr
          refine mV_push fL_law_1233 ?_
          have hr := Option.some.inj hr; subst hr
          exact mV_iret rfl rfl fL_law_1234 (hq _ _)
      rw [if_neg h61] at hr
      by_cases h63 : (z0 &&& 63) = 31
      · rw [if_pos h63] at hr
        refine mV_tabEq (v := 31) fL_law_33 h63 (by decide) (by decide) (by decide) (by decide : (33 : Int) + 1202 = (1235 : Nat)) ?_
        refine mV_aload fL_law_1235 rfl ?_
        refine mV_aloadS fL_law_1236 rfl ?_
        refine mV_iload fL_law_1237 rfl ?_
        refine mV_push fL_law_1238 ?_
        refine mV_iadd fL_law_1239 ?_
        obtain ⟨z221, hz221, hr⟩ := mBind hr
        refine mV_slO fL_law_1240 hz221 ?_
        refine mV_aloadS fL_law_1241 rfl ?_
        refine mV_iload fL_law_1242 rfl ?_
        refine mV_push fL_law_1243 ?_
        refine mV_iadd fL_law_1244 ?_
        obtain ⟨z222, hz222, hr⟩ := mBind hr
        refine mV_slO fL_law_1245 hz222 ?_
        refine mV_aloadS fL_law_1246 rfl ?_
        refine mV_iload fL_law_1247 rfl ?_
        refine mV_push fL_law_1248 ?_
        refine mV_iadd fL_law_1249 ?_
        obtain ⟨z223, hz223, hr⟩ := mBind hr
        refine mV_slO fL_law_1250 hz223 ?_
        refine mV_aloadS fL_law_1251 rfl ?_
        refine mV_iload fL_law_1252 rfl ?_
        refine mV_push fL_law_1253 ?_
        refine mV_iadd fL_law_1254 ?_
        obtain ⟨z224, hz224, hr⟩ := mBind hr
        refine mV_slO fL_law_1255 hz224 ?_
        obtain ⟨z225, hz225, hr⟩ := mBind hr
        refine mV_cV fL_law_1256 tg_m9_pages mCls9 (by decide) kk_0 (mC_deep (c9_pages X I s z221 z222 z223 z224 hz225) (by decide)) rfl rfl (Nat.le_of_ble_eq_true rfl) ?_
        refine mV_aload fL_law_1259 rfl ?_
        refine mV_aloadS fL_law_1260 rfl ?_
        refine mV_iload fL_law_1261 rfl ?_
        refine mV_push fL_law_1262 ?_
        refine mV_iadd fL_law_1263 ?_
        obtain ⟨z226, hz226, hr⟩ := mBind hr
        refine mV_slO fL_law_1264 hz226 ?_
        refine mV_aloadS fL_law_1265 rfl ?_
        refine mV_iload fL_law_1266 rfl ?_
        refine mV_push fL_law_1267 ?_
        refine mV_iadd fL_law_1268 ?_
        obtain ⟨z227, hz227, hr⟩ := mBind hr
        refine mV_slO fL_law_1269 hz227 ?_
        refine mV_aloadS fL_law_1270 rfl ?_
        refine mV_iload fL_law_1271 rfl ?_
        refine mV_push fL_law_1272 ?_
        refine mV_iadd fL_law_1273 ?_
        obtain ⟨z228, hz228, hr⟩ := mBind hr
        refine mV_slO fL_law_1274 hz228 ?_
        refine mV_aloadS fL_law_1275 rfl ?_
        refine mV_iload fL_law_1276 rfl ?_
        refine mV_push fL_law_1277 ?_
        refine mV_iadd fL_law_1278 ?_
        obtain ⟨z229, hz229, hr⟩ := mBind hr
        refine mV_slO fL_law_1279 hz229 ?_
        obtain ⟨z230, hz230, hr⟩ := mBind hr
        refine mV_cV fL_law_1280 tg_m10_pages mCls10 (by decide) kk_119 (mC_deep (c10_pages X I s z226 z227 z228 z229 hz230) (by decide)) rfl rfl (Nat.le_of_ble_eq_true rfl) ?_
        refine mV_icmp_eq fL_law_1283 (fun h64 => ?_) (fun h64 => ?_)
        · rw [if_pos h64] at hr
          refine mV_iinc (y := (y3 + 6)) (L' := [.retAddr 2, .ref 0, .ref 119, .int (y3 + 6)]) fL_law_1386 rfl rfl (by decide) rfl rfl ?_
          refine mV_goto fL_law_1389 ?_
          obtain ⟨z231, hz231, hr⟩ := mBind hr
          exact ih (y3 + 6) s (mStO_ok hz231) z230.2 _ hr hq
        · rw [if_neg h64] at hr
          refine mV_push fL_law_1286 ?_
          have hr := Option.some.inj hr; subst hr
          exact mV_iret rfl rfl fL_law_1287 (hq _ _)
      rw [if_neg h63] at hr
      by_cases h65 : (z0 &&& 63) = 32
      · rw [if_pos h65] at hr
        refine mV_tabEq (v := 32) fL_law_33 h65 (by decide) (by decide) (by decide) (by decide : (33 : Int) + 1255 = (1288 : Nat)) ?_
        refine mV_aload fL_law_1288 rfl ?_
        refine mV_aloadS fL_law_1289 rfl ?_
        refine mV_iload fL_law_1290 rfl ?_
        refine mV_push fL_law_1291 ?_
        refine mV_iadd fL_law_1292 ?_
        obtain ⟨z232, hz232, hr⟩ := mBind hr
        refine mV_slO fL_law_1293 hz232 ?_
        obtain ⟨z233, hz233, hr⟩ := mBind hr
        refine mV_cV fL_law_1294 tg_m9_game mCls9 (by decide) kk_0 (mC_deep (c9_game X I s z232 hz233) (by decide)) rfl rfl (Nat.le_of_ble_eq_true rfl) ?_
        refine mV_aload fL_law_1297 rfl ?_
        refine mV_aloadS fL_law_1298 rfl ?_
        refine mV_iload fL_law_1299 rfl ?_
        refine mV_push fL_law_1300 ?_
        refine mV_iadd fL_law_1301 ?_
        obtain ⟨z234, hz234, hr⟩ := mBind hr
        refine mV_slO fL_law_1302 hz234 ?_
        obtain ⟨z235, hz235, hr⟩ := mBind hr
        refine mV_cV fL_law_1303 tg_m10_game mCls10 (by decide) kk_119 (mC_deep (c10_game X I s z234 hz235) (by decide)) rfl rfl (Nat.le_of_ble_eq_true rfl) ?_
        refine mV_icmp_eq fL_law_1306 (fun h66 => ?_) (fun h66 => ?_)
        · rw [if_pos h66] at hr
          refine mV_iinc (y := (y3 + 6)) (L' := [.retAddr 2, .ref 0, .ref 119, .int (y3 + 6)]) fL_law_1386 rfl rfl (by decide) rfl rfl ?_
          refine mV_goto fL_law_1389 ?_
          obtain ⟨z236, hz236, hr⟩ := mBind hr
          exact ih (y3 + 6) s (mStO_ok hz236) z235.2 _ hr hq
        · rw [if_neg h66] at hr
          refine mV_push fL_law_1309 ?_
          have hr := Option.some.inj hr; subst hr
          exact mV_iret rfl rfl fL_law_1310 (hq _ _)
      rw [if_neg h65] at hr
      by_cases h67 : (z0 &&& 63) = 33
      · rw [if_pos h67] at hr
        refine mV_tabEq (v := 33) fL_law_33 h67 (by decide) (by decide) (by decide) (by decide : (33 : Int) + 1278 = (1311 : Nat)) ?_
        refine mV_aload fL_law_1311 rfl ?_
        obtain ⟨z237, hz237, hr⟩ := mBind hr
        refine mV_cV fL_law_1312 tg_m9_undo mCls9 (by decide) kk_0 (mC_deep (c9_undo X I s hz237) (by decide)) rfl rfl (Nat.le_of_ble_eq_true rfl) ?_
        refine mV_aload fL_law_1315 rfl ?_
        obtain ⟨z238, hz238, hr⟩ := mBind hr
        refine mV_cV fL_law_1316 tg_m10_undo mCls10 (by decide) kk_119 (mC_deep (c10_undo X z237.2 s hz238) (by decide)) rfl rfl (Nat.le_of_ble_eq_true rfl) ?_
        refine mV_icmp_eq fL_law_1319 (fun h68 => ?_) (fun h68 => ?_)
        · rw [if_pos h68] at hr
          refine mV_iinc (y := (y3 + 6)) (L' := [.retAddr 2, .ref 0, .ref 119, .int (y3 + 6)]) fL_law_1386 rfl rfl (by decide) rfl rfl ?_
          refine mV_goto fL_law_1389 ?_
          obtain ⟨z239, hz239, hr⟩ := mBind hr
          exact ih (y3 + 6) s (mStO_ok hz239) z238.2 _ hr hq
        · rw [if_neg h68] at hr
          refine mV_push fL_law_1322 ?_
          have hr := Option.some.inj hr; subst hr
          exact mV_iret rfl rfl fL_law_1323 (hq _ _)
      rw [if_neg h67] at hr
      by_cases h69 : (z0 &&& 63) = 34
      · rw [if_pos h69] at hr
        refine mV_tabEq (v := 34) fL_law_33 h69 (by decide) (by decide) (by decide) (by decide : (33 : Int) + 1291 = (1324 : Nat)) ?_
        refine mV_aload fL_law_1324 rfl ?_
        refine mV_aloadS fL_law_1325 rfl ?_
        refine mV_iload fL_law_1326 rfl ?_
        refine mV_push fL_law_1327 ?_
        refine mV_iadd fL_law_1328 ?_
        obtain ⟨z240, hz240, hr⟩ := mBind hr
        refine mV_slO fL_law_1329 hz240 ?_
        obtain ⟨z241, hz241, hr⟩ := mBind hr
        have keyz241 : mV X mL_law 53 0 0 1338 [.retAddr 2, .ref 0, .ref 119, .int y3] [.int z241, .ref 0] NN KK I (PP s) Q := by
          obtain ⟨z242, hz242, hr⟩ := mBind hr
          refine mV_cV fL_law_1338 tg_m9_image mCls9 (by decide) kk_0 (mC_deep (c9_image X I s z241 hz242) (by decide)) rfl rfl (Nat.le_of_ble_eq_true rfl) ?_
          refine mV_aload fL_law_1341 rfl ?_
          refine mV_aloadS fL_law_1342 rfl ?_
          refine mV_iload fL_law_1343 rfl ?_
          refine mV_push fL_law_1344 ?_
          refine mV_iadd fL_law_1345 ?_
          obtain ⟨z243, hz243, hr⟩ := mBind hr
          refine mV_slO fL_law_1346 hz243 ?_
          obtain ⟨z244, hz244, hr⟩ := mBind hr
          have keyz244 : mV X mL_law 53 0 0 1355 [.retAddr 2, .ref 0, .ref 119, .int y3] [.int z244, .ref 119, .int z242.1] NN KK z242.2 (PP s) Q := by
            obtain ⟨z245, hz245, hr⟩ := mBind hr
            refine mV_cV fL_law_1355 tg_m10_image mCls10 (by decide) kk_119 (mC_deep (c10_image X z242.2 s z244 hz245) (by decide)) rfl rfl (Nat.le_of_ble_eq_true rfl) ?_
            refine mV_icmp_eq fL_law_1358 (fun h72 => ?_) (fun h72 => ?_)
            · rw [if_pos h72] at hr
              refine mV_iinc (y := (y3 + 6)) (L' := [.retAddr 2, .ref 0, .ref 119, .int (y3 + 6)]) fL_law_1386 rfl rfl (by decide) rfl rfl ?_
              refine mV_goto fL_law_1389 ?_
              obtain ⟨z246, hz246, hr⟩ := mBind hr
              exact ih (y3 + 6) s (mStO_ok hz246) z245.2 _ hr hq
            · rw [if_neg h72] at hr
              refine mV_push fL_law_1361 ?_
              have hr := Option.some.inj hr; subst hr
              exact mV_iret rfl rfl fL_law_1362 (hq _ _)
          clear hr
          have hr := hz244
          clear hz244
          refine mV_if_eq fL_law_1347 (fun h71 => ?_) (fun h71 => ?_)
          · rw [if_pos h71] at hr
            refine mV_push fL_law_1354 ?_
            have hr := Option.some.inj hr; subst hr
            exact keyz244
          · rw [if_neg h71] at hr
            refine mV_push fL_law_1350 ?_
            refine mV_goto fL_law_1351 ?_
            have hr := Option.some.inj hr; subst hr
            exact keyz244
        clear hr
        have hr := hz241
        clear hz241
        refine mV_if_eq fL_law_1330 (fun h70 => ?_) (fun h70 => ?_)
        · rw [if_pos h70] at hr
          refine mV_push fL_law_1337 ?_
          have hr := Option.some.inj hr; subst hr
          exact keyz241
        · rw [if_neg h70] at hr
          refine mV_push fL_law_1333 ?_
          refine mV_goto fL_law_1334 ?_
          have hr := Option.some.inj hr; subst hr
          exact keyz241
      rw [if_neg h69] at hr
      by_cases h73 : (z0 &&& 63) = 35
      · rw [if_pos h73] at hr
        refine mV_tabEq (v := 35) fL_law_33 h73 (by decide) (by decide) (by decide) (by decide : (33 : Int) + 1330 = (1363 : Nat)) ?_
        refine mV_aload fL_law_1363 rfl ?_
        refine mV_aloadS fL_law_1364 rfl ?_
        refine mV_iload fL_law_1365 rfl ?_
        refine mV_push fL_law_1366 ?_
        refine mV_iadd fL_law_1367 ?_
        obtain ⟨z247, hz247, hr⟩ := mBind hr
        refine mV_slO fL_law_1368 hz247 ?_
        refine mV_cV fL_law_1369 tg_m9_look mCls9 (by decide) kk_0 (mC_deep (c9_look X I s z247 rfl) (by decide)) rfl rfl (Nat.le_of_ble_eq_true rfl) ?_
        refine mV_aload fL_law_1372 rfl ?_
        refine mV_aloadS fL_law_1373 rfl ?_
        refine mV_iload fL_law_1374 rfl ?_
        refine mV_push fL_law_1375 ?_
        refine mV_iadd fL_law_1376 ?_
        obtain ⟨z248, hz248, hr⟩ := mBind hr
        refine mV_slO fL_law_1377 hz248 ?_
        obtain ⟨z249, hz249, hr⟩ := mBind hr
        refine mV_cV fL_law_1378 tg_m10_look mCls10 (by decide) kk_119 (mC_deep (c10_look X I s z248 hz249) (by decide)) rfl rfl (Nat.le_of_ble_eq_true rfl) ?_
        refine mV_icmp_eq fL_law_1381 (fun h74 => ?_) (fun h74 => ?_)
        · rw [if_pos h74] at hr
          refine mV_iinc (y := (y3 + 6)) (L' := [.retAddr 2, .ref 0, .ref 119, .int (y3 + 6)]) fL_law_1386 rfl rfl (by decide) rfl rfl ?_
          refine mV_goto fL_law_1389 ?_
          obtain ⟨z250, hz250, hr⟩ := mBind hr
          exact ih (y3 + 6) s (mStO_ok hz250) z249.2 _ hr hq
        · rw [if_neg h74] at hr
          refine mV_push fL_law_1384 ?_
          have hr := Option.some.inj hr; subst hr
          exact mV_iret rfl rfl fL_law_1385 (hq _ _)
      rw [if_neg h73] at hr
      refine mV_tabNo fL_law_33 [0, 1, 2, 3, 4, 5, 6, 7, 8, 9, 10, 11, 12, 13, 14, 15, 16, 17, 18, 19, 20, 21, 22, 23, 24, 25, 26, 27, 28, 29, 30, 31, 32, 33, 34, 35] (by decide) (List.forall_mem_cons.mpr ⟨h1, (List.forall_mem_cons.mpr ⟨h3, (List.forall_mem_cons.mpr ⟨h5, (List.forall_mem_cons.mpr ⟨h7, (List.forall_mem_cons.mpr ⟨h9, (List.forall_mem_cons.mpr ⟨h11, (List.forall_mem_cons.mpr ⟨h13, (List.forall_mem_cons.mpr ⟨h15, (List.forall_mem_cons.mpr ⟨h17, (List.forall_mem_cons.mpr ⟨h19, (List.forall_mem_cons.mpr ⟨h21, (List.forall_mem_cons.mpr ⟨h23, (List.forall_mem_cons.mpr ⟨h25, (List.forall_mem_cons.mpr ⟨h27, (List.forall_mem_cons.mpr ⟨h29, (List.forall_mem_cons.mpr ⟨h31, (List.forall_mem_cons.mpr ⟨h33, (List.forall_mem_cons.mpr ⟨h35, (List.forall_mem_cons.mpr ⟨h37, (List.forall_mem_cons.mpr ⟨h39, (List.forall_mem_cons.mpr ⟨h41, (List.forall_mem_cons.mpr ⟨h43, (List.forall_mem_cons.mpr ⟨h45, (List.forall_mem_cons.mpr ⟨h47, (List.forall_mem_cons.mpr ⟨h49, (List.forall_mem_cons.mpr ⟨h51, (List.forall_mem_cons.mpr ⟨h53, (List.forall_mem_cons.mpr ⟨h55, (List.forall_mem_cons.mpr ⟨h57, (List.forall_mem_cons.mpr ⟨h59, (List.forall_mem_cons.mpr ⟨h61, (List.forall_mem_cons.mpr ⟨h63, (List.forall_mem_cons.mpr ⟨h65, (List.forall_mem_cons.mpr ⟨h67, (List.forall_mem_cons.mpr ⟨h69, (List.forall_mem_cons.mpr ⟨h73, (fun _ hc => absurd hc List.not_mem_nil)⟩)⟩)⟩)⟩)⟩)⟩)⟩)⟩)⟩)⟩)⟩)⟩)⟩)⟩)⟩)⟩)⟩)⟩)⟩)⟩)⟩)⟩)⟩)⟩)⟩)⟩)⟩)⟩)⟩)⟩)⟩)⟩)⟩)⟩)⟩)⟩) (by decide : (33 : Int) + 1353 = (1386 : Nat)) ?_
      refine mV_iinc (y := (y3 + 6)) (L' := [.retAddr 2, .ref 0, .ref 119, .int (y3 + 6)]) fL_law_1386 rfl rfl (by decide) rfl rfl ?_
      refine mV_goto fL_law_1389 ?_
      obtain ⟨z251, hz251, hr⟩ := mBind hr
      exact ih (y3 + 6) s (mStO_ok hz251) I _ hr hq
set_option maxHeartbeats 8000000 in
set_option maxRecDepth 100000 in
theorem law_mC (X : Nat × (Nat → Int32)) (hp : lL_law X FU 0 3 (IQ 280) = some 1) : mC X mL_law 53 155 14321 [.retAddr 2] 0 KK (IQ 0) (PQ 0) (fun v _ _ _ _ => v = some (.int 1)) := by
  refine mC_of (L0 := [.retAddr 2, mX0, mX0, mX0]) rfl (Nat.le_of_ble_eq_true rfl) ?_
  refine mV_newX (n' := 1) fL_law_0 rfl rfl (by decide) (by decide) ?_
  refine mV_dup fL_law_3 rfl ?_
  refine mV_ci (mc := 118) (ms := 6523) (bc' := 36) (bs' := 7791) ⟨_, fL_law_4, mlL_9⟩ tg_m9_init (mC_deep (cc29_9_init X) (by decide)) rfl rfl (Nat.le_of_ble_eq_true rfl) rfl rfl ?_
  refine mV_astore (L' := [.retAddr 2, .ref 0, mX0, mX0]) fL_law_7 (by decide) rfl rfl ?_
  refine mV_newX (n' := 120) fL_law_8 rfl rfl (by decide) (by decide) ?_
  refine mV_dup fL_law_11 rfl ?_
  refine mV_ci (mc := 35) (ms := 7729) (bc' := 0) (bs' := 0) ⟨_, fL_law_12, mlL_12⟩ tg_m10_init (mC_deep (cc30_10_init X) (by decide)) rfl rfl (Nat.le_of_ble_eq_true rfl) rfl rfl ?_
  refine mV_astore (L' := [.retAddr 2, .ref 0, .ref 119, mX0]) fL_law_15 (by decide) rfl rfl ?_
  refine mV_push fL_law_16 ?_
  refine mV_istore (L' := [.retAddr 2, .ref 0, .ref 119, .int 0]) fL_law_17 (by decide) rfl rfl ?_
  refine mV_cgP PQ_PP ?_
  exact tL_law X _ FU 0 3 mStg_3 (IQ 280) 1 hp (fun _ _ => rfl)

/-! the law's cases, walked -/
theorem lm21 : Cond.methodLink RL 21 yX10_feed ∈ lw_g := lw_g_of 418 (by decide +kernel) (by decide +kernel)
theorem lm25 : Cond.methodLink RL 25 yX11_feed ∈ lw_g := lw_g_of 1229 (by decide +kernel) (by decide +kernel)
theorem lm26 : Cond.methodLink RL 26 yX10_rules ∈ lw_g := lw_g_of 426 (by decide +kernel) (by decide +kernel)
theorem lm30 : Cond.methodLink RL 30 yX11_rules ∈ lw_g := lw_g_of 1233 (by decide +kernel) (by decide +kernel)
theorem lm31 : Cond.methodLink RL 31 yX10_fault ∈ lw_g := lw_g_of 590 (by decide +kernel) (by decide +kernel)
theorem lm34 : Cond.methodLink RL 34 yX11_fault ∈ lw_g := lw_g_of 1305 (by decide +kernel) (by decide +kernel)
theorem lm35 : Cond.methodLink RL 35 yX10_days ∈ lw_g := lw_g_of 594 (by decide +kernel) (by decide +kernel)
theorem lm38 : Cond.methodLink RL 38 yX11_days ∈ lw_g := lw_g_of 1309 (by decide +kernel) (by decide +kernel)
theorem lm39 : Cond.methodLink RL 39 yX10_court ∈ lw_g := lw_g_of 601 (by decide +kernel) (by decide +kernel)
theorem lm42 : Cond.methodLink RL 42 yX11_court ∈ lw_g := lw_g_of 1313 (by decide +kernel) (by decide +kernel)
theorem lm43 : Cond.methodLink RL 43 yX10_point ∈ lw_g := lw_g_of 609 (by decide +kernel) (by decide +kernel)
theorem lm47 : Cond.methodLink RL 47 yX11_point ∈ lw_g := lw_g_of 1317 (by decide +kernel) (by decide +kernel)
theorem lm48 : Cond.methodLink RL 48 yX10_oppose ∈ lw_g := lw_g_of 613 (by decide +kernel) (by decide +kernel)
theorem lm52 : Cond.methodLink RL 52 yX11_oppose ∈ lw_g := lw_g_of 1321 (by decide +kernel) (by decide +kernel)
theorem lm53 : Cond.methodLink RL 53 yX10_kase ∈ lw_g := lw_g_of 632 (by decide +kernel) (by decide +kernel)
theorem lm57 : Cond.methodLink RL 57 yX11_kase ∈ lw_g := lw_g_of 1329 (by decide +kernel) (by decide +kernel)
theorem lm58 : Cond.methodLink RL 58 yX10_holds ∈ lw_g := lw_g_of 647 (by decide +kernel) (by decide +kernel)
theorem lm62 : Cond.methodLink RL 62 yX11_holds ∈ lw_g := lw_g_of 1340 (by decide +kernel) (by decide +kernel)
theorem lm63 : Cond.methodLink RL 63 yX10_treats ∈ lw_g := lw_g_of 659 (by decide +kernel) (by decide +kernel)
theorem lm66 : Cond.methodLink RL 66 yX11_treats ∈ lw_g := lw_g_of 1352 (by decide +kernel) (by decide +kernel)
theorem lm67 : Cond.methodLink RL 67 yX10_statute ∈ lw_g := lw_g_of 667 (by decide +kernel) (by decide +kernel)
theorem lm71 : Cond.methodLink RL 71 yX11_statute ∈ lw_g := lw_g_of 1360 (by decide +kernel) (by decide +kernel)
theorem lm72 : Cond.methodLink RL 72 yX10_join ∈ lw_g := lw_g_of 671 (by decide +kernel) (by decide +kernel)
theorem lm75 : Cond.methodLink RL 75 yX11_join ∈ lw_g := lw_g_of 1367 (by decide +kernel) (by decide +kernel)
theorem lm76 : Cond.methodLink RL 76 yX10_strike ∈ lw_g := lw_g_of 675 (by decide +kernel) (by decide +kernel)
theorem lm79 : Cond.methodLink RL 79 yX11_strike ∈ lw_g := lw_g_of 1371 (by decide +kernel) (by decide +kernel)
theorem lm80 : Cond.methodLink RL 80 yX10_stand ∈ lw_g := lw_g_of 679 (by decide +kernel) (by decide +kernel)
theorem lm83 : Cond.methodLink RL 83 yX11_stand ∈ lw_g := lw_g_of 1375 (by decide +kernel) (by decide +kernel)
theorem lm84 : Cond.methodLink RL 84 yX10_lead ∈ lw_g := lw_g_of 847 (by decide +kernel) (by decide +kernel)
theorem lm87 : Cond.methodLink RL 87 yX11_lead ∈ lw_g := lw_g_of 1480 (by decide +kernel) (by decide +kernel)
theorem lm88 : Cond.methodLink RL 88 yX10_asked ∈ lw_g := lw_g_of 859 (by decide +kernel) (by decide +kernel)
theorem lm91 : Cond.methodLink RL 91 yX11_asked ∈ lw_g := lw_g_of 1484 (by decide +kernel) (by decide +kernel)
theorem lm92 : Cond.methodLink RL 92 yX10_binds ∈ lw_g := lw_g_of 877 (by decide +kernel) (by decide +kernel)
theorem lm96 : Cond.methodLink RL 96 yX11_binds ∈ lw_g := lw_g_of 1492 (by decide +kernel) (by decide +kernel)
theorem lm97 : Cond.methodLink RL 97 yX10_quarrel ∈ lw_g := lw_g_of 882 (by decide +kernel) (by decide +kernel)
theorem lm100 : Cond.methodLink RL 100 yX11_quarrel ∈ lw_g := lw_g_of 1496 (by decide +kernel) (by decide +kernel)
theorem lm101 : Cond.methodLink RL 101 yX10_forgotten ∈ lw_g := lw_g_of 895 (by decide +kernel) (by decide +kernel)
theorem lm104 : Cond.methodLink RL 104 yX11_forgotten ∈ lw_g := lw_g_of 1504 (by decide +kernel) (by decide +kernel)
theorem lm105 : Cond.methodLink RL 105 yX10_apart ∈ lw_g := lw_g_of 900 (by decide +kernel) (by decide +kernel)
theorem lm108 : Cond.methodLink RL 108 yX11_apart ∈ lw_g := lw_g_of 1508 (by decide +kernel) (by decide +kernel)
theorem lm109 : Cond.methodLink RL 109 yX10_hangs ∈ lw_g := lw_g_of 927 (by decide +kernel) (by decide +kernel)
theorem lm112 : Cond.methodLink RL 112 yX11_hangs ∈ lw_g := lw_g_of 1516 (by decide +kernel) (by decide +kernel)
theorem lm113 : Cond.methodLink RL 113 yX10_joined ∈ lw_g := lw_g_of 931 (by decide +kernel) (by decide +kernel)
theorem lm116 : Cond.methodLink RL 116 yX11_joined ∈ lw_g := lw_g_of 1520 (by decide +kernel) (by decide +kernel)
theorem lm126 : Cond.methodLink RL 126 yX10_count ∈ lw_g := lw_g_of 936 (by decide +kernel) (by decide +kernel)
theorem lm129 : Cond.methodLink RL 129 yX11_count ∈ lw_g := lw_g_of 1528 (by decide +kernel) (by decide +kernel)
set_option maxRecDepth 100000 in
set_option maxHeartbeats 4000000 in
theorem lc0 {p : Program} {l : Launch} {e : Env} {s : State} {m : MethodId} {below : List Frame} {meth : Method} {c : Code} {b L t : Nat} {xs : Nat → Int32} {H : Heap} {locs : List Loc} {cells slots : Nat} {Q : State → Prop} {E : GE} {S : GS} {ls : Array Slot} (hc : LW E p s m meth c b L xs) (hI : IV S) (hG : GX E S H locs) (hl : lv_has ls 7 (lvs E b t)) (hL : 7 * t + 7 ≤ L) (hcs : cells ≤ room_1.cells ∧ slots ≤ room_1.slots) (kk : ∀ (S1 : GS) (H1 : Heap) (locs1 : List Loc), IV S1 → GX E S1 H1 locs1 → W p l e room_1 s m #[Value.ref b] below meth c H1 locs1 cells slots Q (F0 m 1421 ls [])) : W p l e room_1 s m #[Value.ref b] below meth c H locs cells slots Q (F0 m 152 ls []) := by
  obtain ⟨hx, hb, -⟩ := hc.1
  obtain ⟨r, S1, S2, h1, h2, hIV⟩ := call_feed hI (xs (7 * t + 1)) (xs (7 * t + 2)) (xs (7 * t + 3)) (xs (7 * t + 4)) (xs (7 * t + 5))
  refine lv_aload_n hx hb dL_law_152 rfl (lv_at hl 1 rfl) ?_
  refine l_arg hc hG hl (k := 1) (by decide) (by decide) hL dL_law_153 dL_law_154 dL_law_156 dL_law_157 dL_law_158 ?_
  refine l_arg hc hG hl (k := 2) (by decide) (by decide) hL dL_law_159 dL_law_160 dL_law_162 dL_law_163 dL_law_164 ?_
  refine l_arg hc hG hl (k := 3) (by decide) (by decide) hL dL_law_165 dL_law_166 dL_law_168 dL_law_169 dL_law_170 ?_
  refine l_arg hc hG hl (k := 4) (by decide) (by decide) hL dL_law_171 dL_law_172 dL_law_174 dL_law_175 dL_law_176 ?_
  refine l_arg hc hG hl (k := 5) (by decide) (by decide) hL dL_law_177 dL_law_178 dL_law_180 dL_law_181 dL_law_182 ?_
  refine g_callVi hc.1 hG (As := [.int (xs (7 * t + 1)), .int (xs (7 * t + 2)), .int (xs (7 * t + 3)), .int (xs (7 * t + 4)), .int (xs (7 * t + 5))]) (k := 0) (mX10_feed l E h1) lm21 mcX10_feed miX10_feed rfl rfl rfl rfl hl.1 rfl rfl ⟨Nat.le_of_ble_eq_true rfl, Nat.le_of_ble_eq_true rfl⟩ (Nat.le_of_ble_eq_true rfl) hcs dL_law_183 rfl (fun H locs hG => ?_)
  refine lv_aload_n hx hb dL_law_186 rfl (lv_at hl 2 rfl) ?_
  refine l_arg hc hG hl (k := 1) (by decide) (by decide) hL dL_law_187 dL_law_188 dL_law_190 dL_law_191 dL_law_192 ?_
  refine l_arg hc hG hl (k := 2) (by decide) (by decide) hL dL_law_193 dL_law_194 dL_law_196 dL_law_197 dL_law_198 ?_
  refine l_arg hc hG hl (k := 3) (by decide) (by decide) hL dL_law_199 dL_law_200 dL_law_202 dL_law_203 dL_law_204 ?_
  refine l_arg hc hG hl (k := 4) (by decide) (by decide) hL dL_law_205 dL_law_206 dL_law_208 dL_law_209 dL_law_210 ?_
  refine l_arg hc hG hl (k := 5) (by decide) (by decide) hL dL_law_211 dL_law_212 dL_law_214 dL_law_215 dL_law_216 ?_
  refine g_callVi hc.1 hG (As := [.int (xs (7 * t + 1)), .int (xs (7 * t + 2)), .int (xs (7 * t + 3)), .int (xs (7 * t + 4)), .int (xs (7 * t + 5))]) (k := 54) (mX11_feed l E h2) lm25 mcX11_feed miX11_feed rfl rfl rfl rfl hl.1 rfl rfl ⟨Nat.le_of_ble_eq_true rfl, Nat.le_of_ble_eq_true rfl⟩ (Nat.le_of_ble_eq_true rfl) hcs dL_law_217 rfl (fun H locs hG => ?_)
  exact lv_icmp_eq (tgt := 1421) hx hb dL_law_220 (by decide) (fun _ => kk _ H locs hIV hG) (fun q => absurd rfl q)
set_option maxRecDepth 100000 in
set_option maxHeartbeats 4000000 in
theorem lc1 {p : Program} {l : Launch} {e : Env} {s : State} {m : MethodId} {below : List Frame} {meth : Method} {c : Code} {b L t : Nat} {xs : Nat → Int32} {H : Heap} {locs : List Loc} {cells slots : Nat} {Q : State → Prop} {E : GE} {S : GS} {ls : Array Slot} (hc : LW E p s m meth c b L xs) (hI : IV S) (hG : GX E S H locs) (hl : lv_has ls 7 (lvs E b t)) (hL : 7 * t + 7 ≤ L) (hcs : cells ≤ room_1.cells ∧ slots ≤ room_1.slots) (kk : ∀ (S1 : GS) (H1 : Heap) (locs1 : List Loc), IV S1 → GX E S1 H1 locs1 → W p l e room_1 s m #[Value.ref b] below meth c H1 locs1 cells slots Q (F0 m 1421 ls [])) : W p l e room_1 s m #[Value.ref b] below meth c H locs cells slots Q (F0 m 225 ls []) := by
  obtain ⟨hx, hb, -⟩ := hc.1
  obtain ⟨r, S1, S2, h1, h2, hIV⟩ := call_rules hI (xs (7 * t + 1))
  refine lv_aload_n hx hb dL_law_225 rfl (lv_at hl 1 rfl) ?_
  refine l_arg hc hG hl (k := 1) (by decide) (by decide) hL dL_law_226 dL_law_227 dL_law_229 dL_law_230 dL_law_231 ?_
  refine g_callVi hc.1 hG (As := [.int (xs (7 * t + 1))]) (k := 0) (mX10_rules l E h1) lm26 mcX10_rules miX10_rules rfl rfl rfl rfl hl.1 rfl rfl ⟨Nat.le_of_ble_eq_true rfl, Nat.le_of_ble_eq_true rfl⟩ (Nat.le_of_ble_eq_true rfl) hcs dL_law_232 rfl (fun H locs hG => ?_)
  refine lv_aload_n hx hb dL_law_235 rfl (lv_at hl 2 rfl) ?_
  refine l_arg hc hG hl (k := 1) (by decide) (by decide) hL dL_law_236 dL_law_237 dL_law_239 dL_law_240 dL_law_241 ?_
  refine g_callVi hc.1 hG (As := [.int (xs (7 * t + 1))]) (k := 54) (mX11_rules l E h2) lm30 mcX11_rules miX11_rules rfl rfl rfl rfl hl.1 rfl rfl ⟨Nat.le_of_ble_eq_true rfl, Nat.le_of_ble_eq_true rfl⟩ (Nat.le_of_ble_eq_true rfl) hcs dL_law_242 rfl (fun H locs hG => ?_)
  exact lv_icmp_eq (tgt := 1421) hx hb dL_law_245 (by decide) (fun _ => kk _ H locs hIV hG) (fun q => absurd rfl q)
set_option maxRecDepth 100000 in
set_option maxHeartbeats 4000000 in
theorem lc2 {p : Program} {l : Launch} {e : Env} {s : State} {m : MethodId} {below : List Frame} {meth : Method} {c : Code} {b L t : Nat} {xs : Nat → Int32} {H : Heap} {locs : List Loc} {cells slots : Nat} {Q : State → Prop} {E : GE} {S : GS} {ls : Array Slot} (hc : LW E p s m meth c b L xs) (hI : IV S) (hG : GX E S H locs) (hl : lv_has ls 7 (lvs E b t)) (hL : 7 * t + 7 ≤ L) (hcs : cells ≤ room_1.cells ∧ slots ≤ room_1.slots) (kk : ∀ (S1 : GS) (H1 : Heap) (locs1 : List Loc), IV S1 → GX E S1 H1 locs1 → W p l e room_1 s m #[Value.ref b] below meth c H1 locs1 cells slots Q (F0 m 1421 ls [])) : W p l e room_1 s m #[Value.ref b] below meth c H locs cells slots Q (F0 m 250 ls []) := by
  obtain ⟨hx, hb, -⟩ := hc.1
  obtain ⟨r, S2, h1, h2, hIV⟩ := both_pure (f := fun S => fX10_fault S (xs (7 * t + 1))) (call_fault hI (xs (7 * t + 1)))
  refine lv_aload_n hx hb dL_law_250 rfl (lv_at hl 1 rfl) ?_
  refine l_arg hc hG hl (k := 1) (by decide) (by decide) hL dL_law_251 dL_law_252 dL_law_254 dL_law_255 dL_law_256 ?_
  refine g_callVi hc.1 hG (As := [.int (xs (7 * t + 1))]) (k := 0) (mX10_fault l E h1) lm31 mcX10_fault miX10_fault rfl rfl rfl rfl hl.1 rfl rfl ⟨Nat.le_of_ble_eq_true rfl, Nat.le_of_ble_eq_true rfl⟩ (Nat.le_of_ble_eq_true rfl) hcs dL_law_257 rfl (fun H locs hG => ?_)
  refine lv_aload_n hx hb dL_law_260 rfl (lv_at hl 2 rfl) ?_
  refine l_arg hc hG hl (k := 1) (by decide) (by decide) hL dL_law_261 dL_law_262 dL_law_264 dL_law_265 dL_law_266 ?_
  refine g_callVi hc.1 hG (As := [.int (xs (7 * t + 1))]) (k := 54) (mX11_fault l E h2) lm34 mcX11_fault miX11_fault rfl rfl rfl rfl hl.1 rfl rfl ⟨Nat.le_of_ble_eq_true rfl, Nat.le_of_ble_eq_true rfl⟩ (Nat.le_of_ble_eq_true rfl) hcs dL_law_267 rfl (fun H locs hG => ?_)
  exact lv_icmp_eq (tgt := 1421) hx hb dL_law_270 (by decide) (fun _ => kk _ H locs hIV hG) (fun q => absurd rfl q)
set_option maxRecDepth 100000 in
set_option maxHeartbeats 4000000 in
theorem lc3 {p : Program} {l : Launch} {e : Env} {s : State} {m : MethodId} {below : List Frame} {meth : Method} {c : Code} {b L t : Nat} {xs : Nat → Int32} {H : Heap} {locs : List Loc} {cells slots : Nat} {Q : State → Prop} {E : GE} {S : GS} {ls : Array Slot} (hc : LW E p s m meth c b L xs) (hI : IV S) (hG : GX E S H locs) (hl : lv_has ls 7 (lvs E b t)) (hL : 7 * t + 7 ≤ L) (hcs : cells ≤ room_1.cells ∧ slots ≤ room_1.slots) (kk : ∀ (S1 : GS) (H1 : Heap) (locs1 : List Loc), IV S1 → GX E S1 H1 locs1 → W p l e room_1 s m #[Value.ref b] below meth c H1 locs1 cells slots Q (F0 m 1421 ls [])) : W p l e room_1 s m #[Value.ref b] below meth c H locs cells slots Q (F0 m 275 ls []) := by
  obtain ⟨hx, hb, -⟩ := hc.1
  obtain ⟨r, S1, S2, h1, h2, hIV⟩ := call_days hI (xs (7 * t + 1))
  refine lv_aload_n hx hb dL_law_275 rfl (lv_at hl 1 rfl) ?_
  refine l_arg hc hG hl (k := 1) (by decide) (by decide) hL dL_law_276 dL_law_277 dL_law_279 dL_law_280 dL_law_281 ?_
  refine g_callVi hc.1 hG (As := [.int (xs (7 * t + 1))]) (k := 0) (mX10_days l E h1) lm35 mcX10_days miX10_days rfl rfl rfl rfl hl.1 rfl rfl ⟨Nat.le_of_ble_eq_true rfl, Nat.le_of_ble_eq_true rfl⟩ (Nat.le_of_ble_eq_true rfl) hcs dL_law_282 rfl (fun H locs hG => ?_)
  refine lv_aload_n hx hb dL_law_285 rfl (lv_at hl 2 rfl) ?_
  refine l_arg hc hG hl (k := 1) (by decide) (by decide) hL dL_law_286 dL_law_287 dL_law_289 dL_law_290 dL_law_291 ?_
  refine g_callVi hc.1 hG (As := [.int (xs (7 * t + 1))]) (k := 54) (mX11_days l E h2) lm38 mcX11_days miX11_days rfl rfl rfl rfl hl.1 rfl rfl ⟨Nat.le_of_ble_eq_true rfl, Nat.le_of_ble_eq_true rfl⟩ (Nat.le_of_ble_eq_true rfl) hcs dL_law_292 rfl (fun H locs hG => ?_)
  exact lv_icmp_eq (tgt := 1421) hx hb dL_law_295 (by decide) (fun _ => kk _ H locs hIV hG) (fun q => absurd rfl q)
set_option maxRecDepth 100000 in
set_option maxHeartbeats 4000000 in
theorem lc4 {p : Program} {l : Launch} {e : Env} {s : State} {m : MethodId} {below : List Frame} {meth : Method} {c : Code} {b L t : Nat} {xs : Nat → Int32} {H : Heap} {locs : List Loc} {cells slots : Nat} {Q : State → Prop} {E : GE} {S : GS} {ls : Array Slot} (hc : LW E p s m meth c b L xs) (hI : IV S) (hG : GX E S H locs) (hl : lv_has ls 7 (lvs E b t)) (hL : 7 * t + 7 ≤ L) (hcs : cells ≤ room_1.cells ∧ slots ≤ room_1.slots) (kk : ∀ (S1 : GS) (H1 : Heap) (locs1 : List Loc), IV S1 → GX E S1 H1 locs1 → W p l e room_1 s m #[Value.ref b] below meth c H1 locs1 cells slots Q (F0 m 1421 ls [])) : W p l e room_1 s m #[Value.ref b] below meth c H locs cells slots Q (F0 m 300 ls []) := by
  obtain ⟨hx, hb, -⟩ := hc.1
  obtain ⟨r, S1, S2, h1, h2, hIV⟩ := call_court hI (xs (7 * t + 1)) (xs (7 * t + 2))
  refine lv_aload_n hx hb dL_law_300 rfl (lv_at hl 1 rfl) ?_
  refine l_arg hc hG hl (k := 1) (by decide) (by decide) hL dL_law_301 dL_law_302 dL_law_304 dL_law_305 dL_law_306 ?_
  refine l_arg hc hG hl (k := 2) (by decide) (by decide) hL dL_law_307 dL_law_308 dL_law_310 dL_law_311 dL_law_312 ?_
  refine g_callVi hc.1 hG (As := [.int (xs (7 * t + 1)), .int (xs (7 * t + 2))]) (k := 0) (mX10_court l E h1) lm39 mcX10_court miX10_court rfl rfl rfl rfl hl.1 rfl rfl ⟨Nat.le_of_ble_eq_true rfl, Nat.le_of_ble_eq_true rfl⟩ (Nat.le_of_ble_eq_true rfl) hcs dL_law_313 rfl (fun H locs hG => ?_)
  refine lv_aload_n hx hb dL_law_316 rfl (lv_at hl 2 rfl) ?_
  refine l_arg hc hG hl (k := 1) (by decide) (by decide) hL dL_law_317 dL_law_318 dL_law_320 dL_law_321 dL_law_322 ?_
  refine l_arg hc hG hl (k := 2) (by decide) (by decide) hL dL_law_323 dL_law_324 dL_law_326 dL_law_327 dL_law_328 ?_
  refine g_callVi hc.1 hG (As := [.int (xs (7 * t + 1)), .int (xs (7 * t + 2))]) (k := 54) (mX11_court l E h2) lm42 mcX11_court miX11_court rfl rfl rfl rfl hl.1 rfl rfl ⟨Nat.le_of_ble_eq_true rfl, Nat.le_of_ble_eq_true rfl⟩ (Nat.le_of_ble_eq_true rfl) hcs dL_law_329 rfl (fun H locs hG => ?_)
  exact lv_icmp_eq (tgt := 1421) hx hb dL_law_332 (by decide) (fun _ => kk _ H locs hIV hG) (fun q => absurd rfl q)
set_option maxRecDepth 100000 in
set_option maxHeartbeats 4000000 in
theorem lc5 {p : Program} {l : Launch} {e : Env} {s : State} {m : MethodId} {below : List Frame} {meth : Method} {c : Code} {b L t : Nat} {xs : Nat → Int32} {H : Heap} {locs : List Loc} {cells slots : Nat} {Q : State → Prop} {E : GE} {S : GS} {ls : Array Slot} (hc : LW E p s m meth c b L xs) (hI : IV S) (hG : GX E S H locs) (hl : lv_has ls 7 (lvs E b t)) (hL : 7 * t + 7 ≤ L) (hcs : cells ≤ room_1.cells ∧ slots ≤ room_1.slots) (kk : ∀ (S1 : GS) (H1 : Heap) (locs1 : List Loc), IV S1 → GX E S1 H1 locs1 → W p l e room_1 s m #[Value.ref b] below meth c H1 locs1 cells slots Q (F0 m 1421 ls [])) : W p l e room_1 s m #[Value.ref b] below meth c H locs cells slots Q (F0 m 337 ls []) := by
  obtain ⟨hx, hb, -⟩ := hc.1
  obtain ⟨r, S1, S2, h1, h2, hIV⟩ := call_point hI 
  refine lv_aload_n hx hb dL_law_337 rfl (lv_at hl 1 rfl) ?_
  refine g_callVi hc.1 hG (As := []) (k := 0) (mX10_point l E h1) lm43 mcX10_point miX10_point rfl rfl rfl rfl hl.1 rfl rfl ⟨Nat.le_of_ble_eq_true rfl, Nat.le_of_ble_eq_true rfl⟩ (Nat.le_of_ble_eq_true rfl) hcs dL_law_338 rfl (fun H locs hG => ?_)
  refine lv_aload_n hx hb dL_law_341 rfl (lv_at hl 2 rfl) ?_
  refine g_callVi hc.1 hG (As := []) (k := 54) (mX11_point l E h2) lm47 mcX11_point miX11_point rfl rfl rfl rfl hl.1 rfl rfl ⟨Nat.le_of_ble_eq_true rfl, Nat.le_of_ble_eq_true rfl⟩ (Nat.le_of_ble_eq_true rfl) hcs dL_law_342 rfl (fun H locs hG => ?_)
  exact lv_icmp_eq (tgt := 1421) hx hb dL_law_345 (by decide) (fun _ => kk _ H locs hIV hG) (fun q => absurd rfl q)
set_option maxRecDepth 100000 in
set_option maxHeartbeats 4000000 in
theorem lc6 {p : Program} {l : Launch} {e : Env} {s : State} {m : MethodId} {below : List Frame} {meth : Method} {c : Code} {b L t : Nat} {xs : Nat → Int32} {H : Heap} {locs : List Loc} {cells slots : Nat} {Q : State → Prop} {E : GE} {S : GS} {ls : Array Slot} (hc : LW E p s m meth c b L xs) (hI : IV S) (hG : GX E S H locs) (hl : lv_has ls 7 (lvs E b t)) (hL : 7 * t + 7 ≤ L) (hcs : cells ≤ room_1.cells ∧ slots ≤ room_1.slots) (kk : ∀ (S1 : GS) (H1 : Heap) (locs1 : List Loc), IV S1 → GX E S1 H1 locs1 → W p l e room_1 s m #[Value.ref b] below meth c H1 locs1 cells slots Q (F0 m 1421 ls [])) : W p l e room_1 s m #[Value.ref b] below meth c H locs cells slots Q (F0 m 350 ls []) := by
  obtain ⟨hx, hb, -⟩ := hc.1
  obtain ⟨r, S1, S2, h1, h2, hIV⟩ := call_oppose hI (xs (7 * t + 1)) (xs (7 * t + 2)) (if xs (7 * t + 3) = 0 then 0 else 1)
  refine lv_aload_n hx hb dL_law_350 rfl (lv_at hl 1 rfl) ?_
  refine l_arg hc hG hl (k := 1) (by decide) (by decide) hL dL_law_351 dL_law_352 dL_law_354 dL_law_355 dL_law_356 ?_
  refine l_arg hc hG hl (k := 2) (by decide) (by decide) hL dL_law_357 dL_law_358 dL_law_360 dL_law_361 dL_law_362 ?_
  refine l_arg hc hG hl (k := 3) (by decide) (by decide) hL dL_law_363 dL_law_364 dL_law_366 dL_law_367 dL_law_368 ?_
  refine l_bool hc dL_law_369 dL_law_372 dL_law_373 dL_law_376 ?_
  refine g_callVi hc.1 hG (As := [.int (xs (7 * t + 1)), .int (xs (7 * t + 2)), .int (if xs (7 * t + 3) = 0 then 0 else 1)]) (k := 0) (mX10_oppose l E h1) lm48 mcX10_oppose miX10_oppose rfl rfl rfl rfl hl.1 rfl rfl ⟨Nat.le_of_ble_eq_true rfl, Nat.le_of_ble_eq_true rfl⟩ (Nat.le_of_ble_eq_true rfl) hcs dL_law_377 rfl (fun H locs hG => ?_)
  refine lv_aload_n hx hb dL_law_380 rfl (lv_at hl 2 rfl) ?_
  refine l_arg hc hG hl (k := 1) (by decide) (by decide) hL dL_law_381 dL_law_382 dL_law_384 dL_law_385 dL_law_386 ?_
  refine l_arg hc hG hl (k := 2) (by decide) (by decide) hL dL_law_387 dL_law_388 dL_law_390 dL_law_391 dL_law_392 ?_
  refine l_arg hc hG hl (k := 3) (by decide) (by decide) hL dL_law_393 dL_law_394 dL_law_396 dL_law_397 dL_law_398 ?_
  refine l_bool hc dL_law_399 dL_law_402 dL_law_403 dL_law_406 ?_
  refine g_callVi hc.1 hG (As := [.int (xs (7 * t + 1)), .int (xs (7 * t + 2)), .int (if xs (7 * t + 3) = 0 then 0 else 1)]) (k := 54) (mX11_oppose l E h2) lm52 mcX11_oppose miX11_oppose rfl rfl rfl rfl hl.1 rfl rfl ⟨Nat.le_of_ble_eq_true rfl, Nat.le_of_ble_eq_true rfl⟩ (Nat.le_of_ble_eq_true rfl) hcs dL_law_407 rfl (fun H locs hG => ?_)
  exact lv_icmp_eq (tgt := 1421) hx hb dL_law_410 (by decide) (fun _ => kk _ H locs hIV hG) (fun q => absurd rfl q)
set_option maxRecDepth 100000 in
set_option maxHeartbeats 4000000 in
theorem lc7 {p : Program} {l : Launch} {e : Env} {s : State} {m : MethodId} {below : List Frame} {meth : Method} {c : Code} {b L t : Nat} {xs : Nat → Int32} {H : Heap} {locs : List Loc} {cells slots : Nat} {Q : State → Prop} {E : GE} {S : GS} {ls : Array Slot} (hc : LW E p s m meth c b L xs) (hI : IV S) (hG : GX E S H locs) (hl : lv_has ls 7 (lvs E b t)) (hL : 7 * t + 7 ≤ L) (hcs : cells ≤ room_1.cells ∧ slots ≤ room_1.slots) (kk : ∀ (S1 : GS) (H1 : Heap) (locs1 : List Loc), IV S1 → GX E S1 H1 locs1 → W p l e room_1 s m #[Value.ref b] below meth c H1 locs1 cells slots Q (F0 m 1421 ls [])) : W p l e room_1 s m #[Value.ref b] below meth c H locs cells slots Q (F0 m 415 ls []) := by
  obtain ⟨hx, hb, -⟩ := hc.1
  obtain ⟨r, S1, S2, h1, h2, hIV⟩ := call_kase hI (xs (7 * t + 1)) (xs (7 * t + 2)) (xs (7 * t + 3)) (xs (7 * t + 4))
  refine lv_aload_n hx hb dL_law_415 rfl (lv_at hl 1 rfl) ?_
  refine l_arg hc hG hl (k := 1) (by decide) (by decide) hL dL_law_416 dL_law_417 dL_law_419 dL_law_420 dL_law_421 ?_
  refine l_arg hc hG hl (k := 2) (by decide) (by decide) hL dL_law_422 dL_law_423 dL_law_425 dL_law_426 dL_law_427 ?_
  refine l_arg hc hG hl (k := 3) (by decide) (by decide) hL dL_law_428 dL_law_429 dL_law_431 dL_law_432 dL_law_433 ?_
  refine l_arg hc hG hl (k := 4) (by decide) (by decide) hL dL_law_434 dL_law_435 dL_law_437 dL_law_438 dL_law_439 ?_
  refine g_callVi hc.1 hG (As := [.int (xs (7 * t + 1)), .int (xs (7 * t + 2)), .int (xs (7 * t + 3)), .int (xs (7 * t + 4))]) (k := 0) (mX10_kase l E h1) lm53 mcX10_kase miX10_kase rfl rfl rfl rfl hl.1 rfl rfl ⟨Nat.le_of_ble_eq_true rfl, Nat.le_of_ble_eq_true rfl⟩ (Nat.le_of_ble_eq_true rfl) hcs dL_law_440 rfl (fun H locs hG => ?_)
  refine lv_aload_n hx hb dL_law_443 rfl (lv_at hl 2 rfl) ?_
  refine l_arg hc hG hl (k := 1) (by decide) (by decide) hL dL_law_444 dL_law_445 dL_law_447 dL_law_448 dL_law_449 ?_
  refine l_arg hc hG hl (k := 2) (by decide) (by decide) hL dL_law_450 dL_law_451 dL_law_453 dL_law_454 dL_law_455 ?_
  refine l_arg hc hG hl (k := 3) (by decide) (by decide) hL dL_law_456 dL_law_457 dL_law_459 dL_law_460 dL_law_461 ?_
  refine l_arg hc hG hl (k := 4) (by decide) (by decide) hL dL_law_462 dL_law_463 dL_law_465 dL_law_466 dL_law_467 ?_
  refine g_callVi hc.1 hG (As := [.int (xs (7 * t + 1)), .int (xs (7 * t + 2)), .int (xs (7 * t + 3)), .int (xs (7 * t + 4))]) (k := 54) (mX11_kase l E h2) lm57 mcX11_kase miX11_kase rfl rfl rfl rfl hl.1 rfl rfl ⟨Nat.le_of_ble_eq_true rfl, Nat.le_of_ble_eq_true rfl⟩ (Nat.le_of_ble_eq_true rfl) hcs dL_law_468 rfl (fun H locs hG => ?_)
  exact lv_icmp_eq (tgt := 1421) hx hb dL_law_471 (by decide) (fun _ => kk _ H locs hIV hG) (fun q => absurd rfl q)
set_option maxRecDepth 100000 in
set_option maxHeartbeats 4000000 in
theorem lc8 {p : Program} {l : Launch} {e : Env} {s : State} {m : MethodId} {below : List Frame} {meth : Method} {c : Code} {b L t : Nat} {xs : Nat → Int32} {H : Heap} {locs : List Loc} {cells slots : Nat} {Q : State → Prop} {E : GE} {S : GS} {ls : Array Slot} (hc : LW E p s m meth c b L xs) (hI : IV S) (hG : GX E S H locs) (hl : lv_has ls 7 (lvs E b t)) (hL : 7 * t + 7 ≤ L) (hcs : cells ≤ room_1.cells ∧ slots ≤ room_1.slots) (kk : ∀ (S1 : GS) (H1 : Heap) (locs1 : List Loc), IV S1 → GX E S1 H1 locs1 → W p l e room_1 s m #[Value.ref b] below meth c H1 locs1 cells slots Q (F0 m 1421 ls [])) : W p l e room_1 s m #[Value.ref b] below meth c H locs cells slots Q (F0 m 476 ls []) := by
  obtain ⟨hx, hb, -⟩ := hc.1
  obtain ⟨r, S1, S2, h1, h2, hIV⟩ := call_holds hI (xs (7 * t + 1)) (xs (7 * t + 2)) (xs (7 * t + 3)) (xs (7 * t + 4)) (if xs (7 * t + 5) = 0 then 0 else 1)
  refine lv_aload_n hx hb dL_law_476 rfl (lv_at hl 1 rfl) ?_
  refine l_arg hc hG hl (k := 1) (by decide) (by decide) hL dL_law_477 dL_law_478 dL_law_480 dL_law_481 dL_law_482 ?_
  refine l_arg hc hG hl (k := 2) (by decide) (by decide) hL dL_law_483 dL_law_484 dL_law_486 dL_law_487 dL_law_488 ?_
  refine l_arg hc hG hl (k := 3) (by decide) (by decide) hL dL_law_489 dL_law_490 dL_law_492 dL_law_493 dL_law_494 ?_
  refine l_arg hc hG hl (k := 4) (by decide) (by decide) hL dL_law_495 dL_law_496 dL_law_498 dL_law_499 dL_law_500 ?_
  refine l_arg hc hG hl (k := 5) (by decide) (by decide) hL dL_law_501 dL_law_502 dL_law_504 dL_law_505 dL_law_506 ?_
  refine l_bool hc dL_law_507 dL_law_510 dL_law_511 dL_law_514 ?_
  refine g_callVi hc.1 hG (As := [.int (xs (7 * t + 1)), .int (xs (7 * t + 2)), .int (xs (7 * t + 3)), .int (xs (7 * t + 4)), .int (if xs (7 * t + 5) = 0 then 0 else 1)]) (k := 0) (mX10_holds l E h1) lm58 mcX10_holds miX10_holds rfl rfl rfl rfl hl.1 rfl rfl ⟨Nat.le_of_ble_eq_true rfl, Nat.le_of_ble_eq_true rfl⟩ (Nat.le_of_ble_eq_true rfl) hcs dL_law_515 rfl (fun H locs hG => ?_)
  refine lv_aload_n hx hb dL_law_518 rfl (lv_at hl 2 rfl) ?_
  refine l_arg hc hG hl (k := 1) (by decide) (by decide) hL dL_law_519 dL_law_520 dL_law_522 dL_law_523 dL_law_524 ?_
  refine l_arg hc hG hl (k := 2) (by decide) (by decide) hL dL_law_525 dL_law_526 dL_law_528 dL_law_529 dL_law_530 ?_
  refine l_arg hc hG hl (k := 3) (by decide) (by decide) hL dL_law_531 dL_law_532 dL_law_534 dL_law_535 dL_law_536 ?_
  refine l_arg hc hG hl (k := 4) (by decide) (by decide) hL dL_law_537 dL_law_538 dL_law_540 dL_law_541 dL_law_542 ?_
  refine l_arg hc hG hl (k := 5) (by decide) (by decide) hL dL_law_543 dL_law_544 dL_law_546 dL_law_547 dL_law_548 ?_
  refine l_bool hc dL_law_549 dL_law_552 dL_law_553 dL_law_556 ?_
  refine g_callVi hc.1 hG (As := [.int (xs (7 * t + 1)), .int (xs (7 * t + 2)), .int (xs (7 * t + 3)), .int (xs (7 * t + 4)), .int (if xs (7 * t + 5) = 0 then 0 else 1)]) (k := 54) (mX11_holds l E h2) lm62 mcX11_holds miX11_holds rfl rfl rfl rfl hl.1 rfl rfl ⟨Nat.le_of_ble_eq_true rfl, Nat.le_of_ble_eq_true rfl⟩ (Nat.le_of_ble_eq_true rfl) hcs dL_law_557 rfl (fun H locs hG => ?_)
  exact lv_icmp_eq (tgt := 1421) hx hb dL_law_560 (by decide) (fun _ => kk _ H locs hIV hG) (fun q => absurd rfl q)
set_option maxRecDepth 100000 in
set_option maxHeartbeats 4000000 in
theorem lc9 {p : Program} {l : Launch} {e : Env} {s : State} {m : MethodId} {below : List Frame} {meth : Method} {c : Code} {b L t : Nat} {xs : Nat → Int32} {H : Heap} {locs : List Loc} {cells slots : Nat} {Q : State → Prop} {E : GE} {S : GS} {ls : Array Slot} (hc : LW E p s m meth c b L xs) (hI : IV S) (hG : GX E S H locs) (hl : lv_has ls 7 (lvs E b t)) (hL : 7 * t + 7 ≤ L) (hcs : cells ≤ room_1.cells ∧ slots ≤ room_1.slots) (kk : ∀ (S1 : GS) (H1 : Heap) (locs1 : List Loc), IV S1 → GX E S1 H1 locs1 → W p l e room_1 s m #[Value.ref b] below meth c H1 locs1 cells slots Q (F0 m 1421 ls [])) : W p l e room_1 s m #[Value.ref b] below meth c H locs cells slots Q (F0 m 565 ls []) := by
  obtain ⟨hx, hb, -⟩ := hc.1
  obtain ⟨r, S1, S2, h1, h2, hIV⟩ := call_treats hI (xs (7 * t + 1)) (xs (7 * t + 2)) (xs (7 * t + 3)) (xs (7 * t + 4))
  refine lv_aload_n hx hb dL_law_565 rfl (lv_at hl 1 rfl) ?_
  refine l_arg hc hG hl (k := 1) (by decide) (by decide) hL dL_law_566 dL_law_567 dL_law_569 dL_law_570 dL_law_571 ?_
  refine l_arg hc hG hl (k := 2) (by decide) (by decide) hL dL_law_572 dL_law_573 dL_law_575 dL_law_576 dL_law_577 ?_
  refine l_arg hc hG hl (k := 3) (by decide) (by decide) hL dL_law_578 dL_law_579 dL_law_581 dL_law_582 dL_law_583 ?_
  refine l_arg hc hG hl (k := 4) (by decide) (by decide) hL dL_law_584 dL_law_585 dL_law_587 dL_law_588 dL_law_589 ?_
  refine g_callVi hc.1 hG (As := [.int (xs (7 * t + 1)), .int (xs (7 * t + 2)), .int (xs (7 * t + 3)), .int (xs (7 * t + 4))]) (k := 0) (mX10_treats l E h1) lm63 mcX10_treats miX10_treats rfl rfl rfl rfl hl.1 rfl rfl ⟨Nat.le_of_ble_eq_true rfl, Nat.le_of_ble_eq_true rfl⟩ (Nat.le_of_ble_eq_true rfl) hcs dL_law_590 rfl (fun H locs hG => ?_)
  refine lv_aload_n hx hb dL_law_593 rfl (lv_at hl 2 rfl) ?_
  refine l_arg hc hG hl (k := 1) (by decide) (by decide) hL dL_law_594 dL_law_595 dL_law_597 dL_law_598 dL_law_599 ?_
  refine l_arg hc hG hl (k := 2) (by decide) (by decide) hL dL_law_600 dL_law_601 dL_law_603 dL_law_604 dL_law_605 ?_
  refine l_arg hc hG hl (k := 3) (by decide) (by decide) hL dL_law_606 dL_law_607 dL_law_609 dL_law_610 dL_law_611 ?_
  refine l_arg hc hG hl (k := 4) (by decide) (by decide) hL dL_law_612 dL_law_613 dL_law_615 dL_law_616 dL_law_617 ?_
  refine g_callVi hc.1 hG (As := [.int (xs (7 * t + 1)), .int (xs (7 * t + 2)), .int (xs (7 * t + 3)), .int (xs (7 * t + 4))]) (k := 54) (mX11_treats l E h2) lm66 mcX11_treats miX11_treats rfl rfl rfl rfl hl.1 rfl rfl ⟨Nat.le_of_ble_eq_true rfl, Nat.le_of_ble_eq_true rfl⟩ (Nat.le_of_ble_eq_true rfl) hcs dL_law_618 rfl (fun H locs hG => ?_)
  exact lv_icmp_eq (tgt := 1421) hx hb dL_law_621 (by decide) (fun _ => kk _ H locs hIV hG) (fun q => absurd rfl q)
set_option maxRecDepth 100000 in
set_option maxHeartbeats 4000000 in
theorem lc10 {p : Program} {l : Launch} {e : Env} {s : State} {m : MethodId} {below : List Frame} {meth : Method} {c : Code} {b L t : Nat} {xs : Nat → Int32} {H : Heap} {locs : List Loc} {cells slots : Nat} {Q : State → Prop} {E : GE} {S : GS} {ls : Array Slot} (hc : LW E p s m meth c b L xs) (hI : IV S) (hG : GX E S H locs) (hl : lv_has ls 7 (lvs E b t)) (hL : 7 * t + 7 ≤ L) (hcs : cells ≤ room_1.cells ∧ slots ≤ room_1.slots) (kk : ∀ (S1 : GS) (H1 : Heap) (locs1 : List Loc), IV S1 → GX E S1 H1 locs1 → W p l e room_1 s m #[Value.ref b] below meth c H1 locs1 cells slots Q (F0 m 1421 ls [])) : W p l e room_1 s m #[Value.ref b] below meth c H locs cells slots Q (F0 m 626 ls []) := by
  obtain ⟨hx, hb, -⟩ := hc.1
  obtain ⟨r, S1, S2, h1, h2, hIV⟩ := call_statute hI (xs (7 * t + 1)) (xs (7 * t + 2)) (if xs (7 * t + 3) = 0 then 0 else 1)
  refine lv_aload_n hx hb dL_law_626 rfl (lv_at hl 1 rfl) ?_
  refine l_arg hc hG hl (k := 1) (by decide) (by decide) hL dL_law_627 dL_law_628 dL_law_630 dL_law_631 dL_law_632 ?_
  refine l_arg hc hG hl (k := 2) (by decide) (by decide) hL dL_law_633 dL_law_634 dL_law_636 dL_law_637 dL_law_638 ?_
  refine l_arg hc hG hl (k := 3) (by decide) (by decide) hL dL_law_639 dL_law_640 dL_law_642 dL_law_643 dL_law_644 ?_
  refine l_bool hc dL_law_645 dL_law_648 dL_law_649 dL_law_652 ?_
  refine g_callVi hc.1 hG (As := [.int (xs (7 * t + 1)), .int (xs (7 * t + 2)), .int (if xs (7 * t + 3) = 0 then 0 else 1)]) (k := 0) (mX10_statute l E h1) lm67 mcX10_statute miX10_statute rfl rfl rfl rfl hl.1 rfl rfl ⟨Nat.le_of_ble_eq_true rfl, Nat.le_of_ble_eq_true rfl⟩ (Nat.le_of_ble_eq_true rfl) hcs dL_law_653 rfl (fun H locs hG => ?_)
  refine lv_aload_n hx hb dL_law_656 rfl (lv_at hl 2 rfl) ?_
  refine l_arg hc hG hl (k := 1) (by decide) (by decide) hL dL_law_657 dL_law_658 dL_law_660 dL_law_661 dL_law_662 ?_
  refine l_arg hc hG hl (k := 2) (by decide) (by decide) hL dL_law_663 dL_law_664 dL_law_666 dL_law_667 dL_law_668 ?_
  refine l_arg hc hG hl (k := 3) (by decide) (by decide) hL dL_law_669 dL_law_670 dL_law_672 dL_law_673 dL_law_674 ?_
  refine l_bool hc dL_law_675 dL_law_678 dL_law_679 dL_law_682 ?_
  refine g_callVi hc.1 hG (As := [.int (xs (7 * t + 1)), .int (xs (7 * t + 2)), .int (if xs (7 * t + 3) = 0 then 0 else 1)]) (k := 54) (mX11_statute l E h2) lm71 mcX11_statute miX11_statute rfl rfl rfl rfl hl.1 rfl rfl ⟨Nat.le_of_ble_eq_true rfl, Nat.le_of_ble_eq_true rfl⟩ (Nat.le_of_ble_eq_true rfl) hcs dL_law_683 rfl (fun H locs hG => ?_)
  exact lv_icmp_eq (tgt := 1421) hx hb dL_law_686 (by decide) (fun _ => kk _ H locs hIV hG) (fun q => absurd rfl q)
set_option maxRecDepth 100000 in
set_option maxHeartbeats 4000000 in
theorem lc11 {p : Program} {l : Launch} {e : Env} {s : State} {m : MethodId} {below : List Frame} {meth : Method} {c : Code} {b L t : Nat} {xs : Nat → Int32} {H : Heap} {locs : List Loc} {cells slots : Nat} {Q : State → Prop} {E : GE} {S : GS} {ls : Array Slot} (hc : LW E p s m meth c b L xs) (hI : IV S) (hG : GX E S H locs) (hl : lv_has ls 7 (lvs E b t)) (hL : 7 * t + 7 ≤ L) (hcs : cells ≤ room_1.cells ∧ slots ≤ room_1.slots) (kk : ∀ (S1 : GS) (H1 : Heap) (locs1 : List Loc), IV S1 → GX E S1 H1 locs1 → W p l e room_1 s m #[Value.ref b] below meth c H1 locs1 cells slots Q (F0 m 1421 ls [])) : W p l e room_1 s m #[Value.ref b] below meth c H locs cells slots Q (F0 m 691 ls []) := by
  obtain ⟨hx, hb, -⟩ := hc.1
  obtain ⟨r, S1, S2, h1, h2, hIV⟩ := call_join hI (xs (7 * t + 1)) (xs (7 * t + 2))
  refine lv_aload_n hx hb dL_law_691 rfl (lv_at hl 1 rfl) ?_
  refine l_arg hc hG hl (k := 1) (by decide) (by decide) hL dL_law_692 dL_law_693 dL_law_695 dL_law_696 dL_law_697 ?_
  refine l_arg hc hG hl (k := 2) (by decide) (by decide) hL dL_law_698 dL_law_699 dL_law_701 dL_law_702 dL_law_703 ?_
  refine g_callVi hc.1 hG (As := [.int (xs (7 * t + 1)), .int (xs (7 * t + 2))]) (k := 0) (mX10_join l E h1) lm72 mcX10_join miX10_join rfl rfl rfl rfl hl.1 rfl rfl ⟨Nat.le_of_ble_eq_true rfl, Nat.le_of_ble_eq_true rfl⟩ (Nat.le_of_ble_eq_true rfl) hcs dL_law_704 rfl (fun H locs hG => ?_)
  refine lv_aload_n hx hb dL_law_707 rfl (lv_at hl 2 rfl) ?_
  refine l_arg hc hG hl (k := 1) (by decide) (by decide) hL dL_law_708 dL_law_709 dL_law_711 dL_law_712 dL_law_713 ?_
  refine l_arg hc hG hl (k := 2) (by decide) (by decide) hL dL_law_714 dL_law_715 dL_law_717 dL_law_718 dL_law_719 ?_
  refine g_callVi hc.1 hG (As := [.int (xs (7 * t + 1)), .int (xs (7 * t + 2))]) (k := 54) (mX11_join l E h2) lm75 mcX11_join miX11_join rfl rfl rfl rfl hl.1 rfl rfl ⟨Nat.le_of_ble_eq_true rfl, Nat.le_of_ble_eq_true rfl⟩ (Nat.le_of_ble_eq_true rfl) hcs dL_law_720 rfl (fun H locs hG => ?_)
  exact lv_icmp_eq (tgt := 1421) hx hb dL_law_723 (by decide) (fun _ => kk _ H locs hIV hG) (fun q => absurd rfl q)
set_option maxRecDepth 100000 in
set_option maxHeartbeats 4000000 in
theorem lc12 {p : Program} {l : Launch} {e : Env} {s : State} {m : MethodId} {below : List Frame} {meth : Method} {c : Code} {b L t : Nat} {xs : Nat → Int32} {H : Heap} {locs : List Loc} {cells slots : Nat} {Q : State → Prop} {E : GE} {S : GS} {ls : Array Slot} (hc : LW E p s m meth c b L xs) (hI : IV S) (hG : GX E S H locs) (hl : lv_has ls 7 (lvs E b t)) (hL : 7 * t + 7 ≤ L) (hcs : cells ≤ room_1.cells ∧ slots ≤ room_1.slots) (kk : ∀ (S1 : GS) (H1 : Heap) (locs1 : List Loc), IV S1 → GX E S1 H1 locs1 → W p l e room_1 s m #[Value.ref b] below meth c H1 locs1 cells slots Q (F0 m 1421 ls [])) : W p l e room_1 s m #[Value.ref b] below meth c H locs cells slots Q (F0 m 728 ls []) := by
  obtain ⟨hx, hb, -⟩ := hc.1
  obtain ⟨r, S1, S2, h1, h2, hIV⟩ := call_strike hI (xs (7 * t + 1))
  refine lv_aload_n hx hb dL_law_728 rfl (lv_at hl 1 rfl) ?_
  refine l_arg hc hG hl (k := 1) (by decide) (by decide) hL dL_law_729 dL_law_730 dL_law_732 dL_law_733 dL_law_734 ?_
  refine g_callVi hc.1 hG (As := [.int (xs (7 * t + 1))]) (k := 0) (mX10_strike l E h1) lm76 mcX10_strike miX10_strike rfl rfl rfl rfl hl.1 rfl rfl ⟨Nat.le_of_ble_eq_true rfl, Nat.le_of_ble_eq_true rfl⟩ (Nat.le_of_ble_eq_true rfl) hcs dL_law_735 rfl (fun H locs hG => ?_)
  refine lv_aload_n hx hb dL_law_738 rfl (lv_at hl 2 rfl) ?_
  refine l_arg hc hG hl (k := 1) (by decide) (by decide) hL dL_law_739 dL_law_740 dL_law_742 dL_law_743 dL_law_744 ?_
  refine g_callVi hc.1 hG (As := [.int (xs (7 * t + 1))]) (k := 54) (mX11_strike l E h2) lm79 mcX11_strike miX11_strike rfl rfl rfl rfl hl.1 rfl rfl ⟨Nat.le_of_ble_eq_true rfl, Nat.le_of_ble_eq_true rfl⟩ (Nat.le_of_ble_eq_true rfl) hcs dL_law_745 rfl (fun H locs hG => ?_)
  exact lv_icmp_eq (tgt := 1421) hx hb dL_law_748 (by decide) (fun _ => kk _ H locs hIV hG) (fun q => absurd rfl q)
set_option maxRecDepth 100000 in
set_option maxHeartbeats 4000000 in
theorem lc13 {p : Program} {l : Launch} {e : Env} {s : State} {m : MethodId} {below : List Frame} {meth : Method} {c : Code} {b L t : Nat} {xs : Nat → Int32} {H : Heap} {locs : List Loc} {cells slots : Nat} {Q : State → Prop} {E : GE} {S : GS} {ls : Array Slot} (hc : LW E p s m meth c b L xs) (hI : IV S) (hG : GX E S H locs) (hl : lv_has ls 7 (lvs E b t)) (hL : 7 * t + 7 ≤ L) (hcs : cells ≤ room_1.cells ∧ slots ≤ room_1.slots) (kk : ∀ (S1 : GS) (H1 : Heap) (locs1 : List Loc), IV S1 → GX E S1 H1 locs1 → W p l e room_1 s m #[Value.ref b] below meth c H1 locs1 cells slots Q (F0 m 1421 ls [])) : W p l e room_1 s m #[Value.ref b] below meth c H locs cells slots Q (F0 m 753 ls []) := by
  obtain ⟨hx, hb, -⟩ := hc.1
  obtain ⟨r, S1, S2, h1, h2, hIV⟩ := call_stand hI (xs (7 * t + 1)) (xs (7 * t + 2)) (xs (7 * t + 3)) (xs (7 * t + 4)) (xs (7 * t + 5))
  refine lv_aload_n hx hb dL_law_753 rfl (lv_at hl 1 rfl) ?_
  refine l_arg hc hG hl (k := 1) (by decide) (by decide) hL dL_law_754 dL_law_755 dL_law_757 dL_law_758 dL_law_759 ?_
  refine l_arg hc hG hl (k := 2) (by decide) (by decide) hL dL_law_760 dL_law_761 dL_law_763 dL_law_764 dL_law_765 ?_
  refine l_arg hc hG hl (k := 3) (by decide) (by decide) hL dL_law_766 dL_law_767 dL_law_769 dL_law_770 dL_law_771 ?_
  refine l_arg hc hG hl (k := 4) (by decide) (by decide) hL dL_law_772 dL_law_773 dL_law_775 dL_law_776 dL_law_777 ?_
  refine l_arg hc hG hl (k := 5) (by decide) (by decide) hL dL_law_778 dL_law_779 dL_law_781 dL_law_782 dL_law_783 ?_
  refine g_callVi hc.1 hG (As := [.int (xs (7 * t + 1)), .int (xs (7 * t + 2)), .int (xs (7 * t + 3)), .int (xs (7 * t + 4)), .int (xs (7 * t + 5))]) (k := 0) (mX10_stand l E h1) lm80 mcX10_stand miX10_stand rfl rfl rfl rfl hl.1 rfl rfl ⟨Nat.le_of_ble_eq_true rfl, Nat.le_of_ble_eq_true rfl⟩ (Nat.le_of_ble_eq_true rfl) hcs dL_law_784 rfl (fun H locs hG => ?_)
  refine lv_aload_n hx hb dL_law_787 rfl (lv_at hl 2 rfl) ?_
  refine l_arg hc hG hl (k := 1) (by decide) (by decide) hL dL_law_788 dL_law_789 dL_law_791 dL_law_792 dL_law_793 ?_
  refine l_arg hc hG hl (k := 2) (by decide) (by decide) hL dL_law_794 dL_law_795 dL_law_797 dL_law_798 dL_law_799 ?_
  refine l_arg hc hG hl (k := 3) (by decide) (by decide) hL dL_law_800 dL_law_801 dL_law_803 dL_law_804 dL_law_805 ?_
  refine l_arg hc hG hl (k := 4) (by decide) (by decide) hL dL_law_806 dL_law_807 dL_law_809 dL_law_810 dL_law_811 ?_
  refine l_arg hc hG hl (k := 5) (by decide) (by decide) hL dL_law_812 dL_law_813 dL_law_815 dL_law_816 dL_law_817 ?_
  refine g_callVi hc.1 hG (As := [.int (xs (7 * t + 1)), .int (xs (7 * t + 2)), .int (xs (7 * t + 3)), .int (xs (7 * t + 4)), .int (xs (7 * t + 5))]) (k := 54) (mX11_stand l E h2) lm83 mcX11_stand miX11_stand rfl rfl rfl rfl hl.1 rfl rfl ⟨Nat.le_of_ble_eq_true rfl, Nat.le_of_ble_eq_true rfl⟩ (Nat.le_of_ble_eq_true rfl) hcs dL_law_818 rfl (fun H locs hG => ?_)
  exact lv_icmp_eq (tgt := 1421) hx hb dL_law_821 (by decide) (fun _ => kk _ H locs hIV hG) (fun q => absurd rfl q)
set_option maxRecDepth 100000 in
set_option maxHeartbeats 4000000 in
theorem lc14 {p : Program} {l : Launch} {e : Env} {s : State} {m : MethodId} {below : List Frame} {meth : Method} {c : Code} {b L t : Nat} {xs : Nat → Int32} {H : Heap} {locs : List Loc} {cells slots : Nat} {Q : State → Prop} {E : GE} {S : GS} {ls : Array Slot} (hc : LW E p s m meth c b L xs) (hI : IV S) (hG : GX E S H locs) (hl : lv_has ls 7 (lvs E b t)) (hL : 7 * t + 7 ≤ L) (hcs : cells ≤ room_1.cells ∧ slots ≤ room_1.slots) (kk : ∀ (S1 : GS) (H1 : Heap) (locs1 : List Loc), IV S1 → GX E S1 H1 locs1 → W p l e room_1 s m #[Value.ref b] below meth c H1 locs1 cells slots Q (F0 m 1421 ls [])) : W p l e room_1 s m #[Value.ref b] below meth c H locs cells slots Q (F0 m 826 ls []) := by
  obtain ⟨hx, hb, -⟩ := hc.1
  obtain ⟨r, S1, S2, h1, h2, hIV⟩ := call_lead hI (xs (7 * t + 1)) (xs (7 * t + 2)) (xs (7 * t + 3)) (xs (7 * t + 4)) (xs (7 * t + 5))
  refine lv_aload_n hx hb dL_law_826 rfl (lv_at hl 1 rfl) ?_
  refine l_arg hc hG hl (k := 1) (by decide) (by decide) hL dL_law_827 dL_law_828 dL_law_830 dL_law_831 dL_law_832 ?_
  refine l_arg hc hG hl (k := 2) (by decide) (by decide) hL dL_law_833 dL_law_834 dL_law_836 dL_law_837 dL_law_838 ?_
  refine l_arg hc hG hl (k := 3) (by decide) (by decide) hL dL_law_839 dL_law_840 dL_law_842 dL_law_843 dL_law_844 ?_
  refine l_arg hc hG hl (k := 4) (by decide) (by decide) hL dL_law_845 dL_law_846 dL_law_848 dL_law_849 dL_law_850 ?_
  refine l_arg hc hG hl (k := 5) (by decide) (by decide) hL dL_law_851 dL_law_852 dL_law_854 dL_law_855 dL_law_856 ?_
  refine g_callVi hc.1 hG (As := [.int (xs (7 * t + 1)), .int (xs (7 * t + 2)), .int (xs (7 * t + 3)), .int (xs (7 * t + 4)), .int (xs (7 * t + 5))]) (k := 0) (mX10_lead l E h1) lm84 mcX10_lead miX10_lead rfl rfl rfl rfl hl.1 rfl rfl ⟨Nat.le_of_ble_eq_true rfl, Nat.le_of_ble_eq_true rfl⟩ (Nat.le_of_ble_eq_true rfl) hcs dL_law_857 rfl (fun H locs hG => ?_)
  refine lv_aload_n hx hb dL_law_860 rfl (lv_at hl 2 rfl) ?_
  refine l_arg hc hG hl (k := 1) (by decide) (by decide) hL dL_law_861 dL_law_862 dL_law_864 dL_law_865 dL_law_866 ?_
  refine l_arg hc hG hl (k := 2) (by decide) (by decide) hL dL_law_867 dL_law_868 dL_law_870 dL_law_871 dL_law_872 ?_
  refine l_arg hc hG hl (k := 3) (by decide) (by decide) hL dL_law_873 dL_law_874 dL_law_876 dL_law_877 dL_law_878 ?_
  refine l_arg hc hG hl (k := 4) (by decide) (by decide) hL dL_law_879 dL_law_880 dL_law_882 dL_law_883 dL_law_884 ?_
  refine l_arg hc hG hl (k := 5) (by decide) (by decide) hL dL_law_885 dL_law_886 dL_law_888 dL_law_889 dL_law_890 ?_
  refine g_callVi hc.1 hG (As := [.int (xs (7 * t + 1)), .int (xs (7 * t + 2)), .int (xs (7 * t + 3)), .int (xs (7 * t + 4)), .int (xs (7 * t + 5))]) (k := 54) (mX11_lead l E h2) lm87 mcX11_lead miX11_lead rfl rfl rfl rfl hl.1 rfl rfl ⟨Nat.le_of_ble_eq_true rfl, Nat.le_of_ble_eq_true rfl⟩ (Nat.le_of_ble_eq_true rfl) hcs dL_law_891 rfl (fun H locs hG => ?_)
  exact lv_icmp_eq (tgt := 1421) hx hb dL_law_894 (by decide) (fun _ => kk _ H locs hIV hG) (fun q => absurd rfl q)
set_option maxRecDepth 100000 in
set_option maxHeartbeats 4000000 in
theorem lc15 {p : Program} {l : Launch} {e : Env} {s : State} {m : MethodId} {below : List Frame} {meth : Method} {c : Code} {b L t : Nat} {xs : Nat → Int32} {H : Heap} {locs : List Loc} {cells slots : Nat} {Q : State → Prop} {E : GE} {S : GS} {ls : Array Slot} (hc : LW E p s m meth c b L xs) (hI : IV S) (hG : GX E S H locs) (hl : lv_has ls 7 (lvs E b t)) (hL : 7 * t + 7 ≤ L) (hcs : cells ≤ room_1.cells ∧ slots ≤ room_1.slots) (kk : ∀ (S1 : GS) (H1 : Heap) (locs1 : List Loc), IV S1 → GX E S1 H1 locs1 → W p l e room_1 s m #[Value.ref b] below meth c H1 locs1 cells slots Q (F0 m 1421 ls [])) : W p l e room_1 s m #[Value.ref b] below meth c H locs cells slots Q (F0 m 899 ls []) := by
  obtain ⟨hx, hb, -⟩ := hc.1
  obtain ⟨r, S1, S2, h1, h2, hIV⟩ := call_asked hI (xs (7 * t + 1)) (xs (7 * t + 2)) (xs (7 * t + 3)) (xs (7 * t + 4)) (xs (7 * t + 5))
  refine lv_aload_n hx hb dL_law_899 rfl (lv_at hl 1 rfl) ?_
  refine l_arg hc hG hl (k := 1) (by decide) (by decide) hL dL_law_900 dL_law_901 dL_law_903 dL_law_904 dL_law_905 ?_
  refine l_arg hc hG hl (k := 2) (by decide) (by decide) hL dL_law_906 dL_law_907 dL_law_909 dL_law_910 dL_law_911 ?_
  refine l_arg hc hG hl (k := 3) (by decide) (by decide) hL dL_law_912 dL_law_913 dL_law_915 dL_law_916 dL_law_917 ?_
  refine l_arg hc hG hl (k := 4) (by decide) (by decide) hL dL_law_918 dL_law_919 dL_law_921 dL_law_922 dL_law_923 ?_
  refine l_arg hc hG hl (k := 5) (by decide) (by decide) hL dL_law_924 dL_law_925 dL_law_927 dL_law_928 dL_law_929 ?_
  refine g_callVi hc.1 hG (As := [.int (xs (7 * t + 1)), .int (xs (7 * t + 2)), .int (xs (7 * t + 3)), .int (xs (7 * t + 4)), .int (xs (7 * t + 5))]) (k := 0) (mX10_asked l E h1) lm88 mcX10_asked miX10_asked rfl rfl rfl rfl hl.1 rfl rfl ⟨Nat.le_of_ble_eq_true rfl, Nat.le_of_ble_eq_true rfl⟩ (Nat.le_of_ble_eq_true rfl) hcs dL_law_930 rfl (fun H locs hG => ?_)
  refine lv_aload_n hx hb dL_law_933 rfl (lv_at hl 2 rfl) ?_
  refine l_arg hc hG hl (k := 1) (by decide) (by decide) hL dL_law_934 dL_law_935 dL_law_937 dL_law_938 dL_law_939 ?_
  refine l_arg hc hG hl (k := 2) (by decide) (by decide) hL dL_law_940 dL_law_941 dL_law_943 dL_law_944 dL_law_945 ?_
  refine l_arg hc hG hl (k := 3) (by decide) (by decide) hL dL_law_946 dL_law_947 dL_law_949 dL_law_950 dL_law_951 ?_
  refine l_arg hc hG hl (k := 4) (by decide) (by decide) hL dL_law_952 dL_law_953 dL_law_955 dL_law_956 dL_law_957 ?_
  refine l_arg hc hG hl (k := 5) (by decide) (by decide) hL dL_law_958 dL_law_959 dL_law_961 dL_law_962 dL_law_963 ?_
  refine g_callVi hc.1 hG (As := [.int (xs (7 * t + 1)), .int (xs (7 * t + 2)), .int (xs (7 * t + 3)), .int (xs (7 * t + 4)), .int (xs (7 * t + 5))]) (k := 54) (mX11_asked l E h2) lm91 mcX11_asked miX11_asked rfl rfl rfl rfl hl.1 rfl rfl ⟨Nat.le_of_ble_eq_true rfl, Nat.le_of_ble_eq_true rfl⟩ (Nat.le_of_ble_eq_true rfl) hcs dL_law_964 rfl (fun H locs hG => ?_)
  exact lv_icmp_eq (tgt := 1421) hx hb dL_law_967 (by decide) (fun _ => kk _ H locs hIV hG) (fun q => absurd rfl q)
set_option maxRecDepth 100000 in
set_option maxHeartbeats 4000000 in
theorem lc16 {p : Program} {l : Launch} {e : Env} {s : State} {m : MethodId} {below : List Frame} {meth : Method} {c : Code} {b L t : Nat} {xs : Nat → Int32} {H : Heap} {locs : List Loc} {cells slots : Nat} {Q : State → Prop} {E : GE} {S : GS} {ls : Array Slot} (hc : LW E p s m meth c b L xs) (hI : IV S) (hG : GX E S H locs) (hl : lv_has ls 7 (lvs E b t)) (hL : 7 * t + 7 ≤ L) (hcs : cells ≤ room_1.cells ∧ slots ≤ room_1.slots) (kk : ∀ (S1 : GS) (H1 : Heap) (locs1 : List Loc), IV S1 → GX E S1 H1 locs1 → W p l e room_1 s m #[Value.ref b] below meth c H1 locs1 cells slots Q (F0 m 1421 ls [])) : W p l e room_1 s m #[Value.ref b] below meth c H locs cells slots Q (F0 m 972 ls []) := by
  obtain ⟨hx, hb, -⟩ := hc.1
  obtain ⟨r, S1, S2, h1, h2, hIV⟩ := call_binds hI (xs (7 * t + 1)) (xs (7 * t + 2)) (xs (7 * t + 3)) (xs (7 * t + 4)) (xs (7 * t + 5)) (xs (7 * t + 6))
  refine lv_aload_n hx hb dL_law_972 rfl (lv_at hl 1 rfl) ?_
  refine l_arg hc hG hl (k := 1) (by decide) (by decide) hL dL_law_973 dL_law_974 dL_law_976 dL_law_977 dL_law_978 ?_
  refine l_arg hc hG hl (k := 2) (by decide) (by decide) hL dL_law_979 dL_law_980 dL_law_982 dL_law_983 dL_law_984 ?_
  refine l_arg hc hG hl (k := 3) (by decide) (by decide) hL dL_law_985 dL_law_986 dL_law_988 dL_law_989 dL_law_990 ?_
  refine l_arg hc hG hl (k := 4) (by decide) (by decide) hL dL_law_991 dL_law_992 dL_law_994 dL_law_995 dL_law_996 ?_
  refine l_arg hc hG hl (k := 5) (by decide) (by decide) hL dL_law_997 dL_law_998 dL_law_1000 dL_law_1001 dL_law_1002 ?_
  refine l_argB hc hG hl (k := 6) (by decide) (by decide) hL dL_law_1003 dL_law_1004 dL_law_1006 dL_law_1008 dL_law_1009 ?_
  refine g_callVi hc.1 hG (As := [.int (xs (7 * t + 1)), .int (xs (7 * t + 2)), .int (xs (7 * t + 3)), .int (xs (7 * t + 4)), .int (xs (7 * t + 5)), .int (xs (7 * t + 6))]) (k := 0) (mX10_binds l E h1) lm92 mcX10_binds miX10_binds rfl rfl rfl rfl hl.1 rfl rfl ⟨Nat.le_of_ble_eq_true rfl, Nat.le_of_ble_eq_true rfl⟩ (Nat.le_of_ble_eq_true rfl) hcs dL_law_1010 rfl (fun H locs hG => ?_)
  refine lv_aload_n hx hb dL_law_1013 rfl (lv_at hl 2 rfl) ?_
  refine l_arg hc hG hl (k := 1) (by decide) (by decide) hL dL_law_1014 dL_law_1015 dL_law_1017 dL_law_1018 dL_law_1019 ?_
  refine l_arg hc hG hl (k := 2) (by decide) (by decide) hL dL_law_1020 dL_law_1021 dL_law_1023 dL_law_1024 dL_law_1025 ?_
  refine l_arg hc hG hl (k := 3) (by decide) (by decide) hL dL_law_1026 dL_law_1027 dL_law_1029 dL_law_1030 dL_law_1031 ?_
  refine l_arg hc hG hl (k := 4) (by decide) (by decide) hL dL_law_1032 dL_law_1033 dL_law_1035 dL_law_1036 dL_law_1037 ?_
  refine l_arg hc hG hl (k := 5) (by decide) (by decide) hL dL_law_1038 dL_law_1039 dL_law_1041 dL_law_1042 dL_law_1043 ?_
  refine l_argB hc hG hl (k := 6) (by decide) (by decide) hL dL_law_1044 dL_law_1045 dL_law_1047 dL_law_1049 dL_law_1050 ?_
  refine g_callVi hc.1 hG (As := [.int (xs (7 * t + 1)), .int (xs (7 * t + 2)), .int (xs (7 * t + 3)), .int (xs (7 * t + 4)), .int (xs (7 * t + 5)), .int (xs (7 * t + 6))]) (k := 54) (mX11_binds l E h2) lm96 mcX11_binds miX11_binds rfl rfl rfl rfl hl.1 rfl rfl ⟨Nat.le_of_ble_eq_true rfl, Nat.le_of_ble_eq_true rfl⟩ (Nat.le_of_ble_eq_true rfl) hcs dL_law_1051 rfl (fun H locs hG => ?_)
  exact lv_icmp_eq (tgt := 1421) hx hb dL_law_1054 (by decide) (fun _ => kk _ H locs hIV hG) (fun q => absurd rfl q)
set_option maxRecDepth 100000 in
set_option maxHeartbeats 4000000 in
theorem lc17 {p : Program} {l : Launch} {e : Env} {s : State} {m : MethodId} {below : List Frame} {meth : Method} {c : Code} {b L t : Nat} {xs : Nat → Int32} {H : Heap} {locs : List Loc} {cells slots : Nat} {Q : State → Prop} {E : GE} {S : GS} {ls : Array Slot} (hc : LW E p s m meth c b L xs) (hI : IV S) (hG : GX E S H locs) (hl : lv_has ls 7 (lvs E b t)) (hL : 7 * t + 7 ≤ L) (hcs : cells ≤ room_1.cells ∧ slots ≤ room_1.slots) (kk : ∀ (S1 : GS) (H1 : Heap) (locs1 : List Loc), IV S1 → GX E S1 H1 locs1 → W p l e room_1 s m #[Value.ref b] below meth c H1 locs1 cells slots Q (F0 m 1421 ls [])) : W p l e room_1 s m #[Value.ref b] below meth c H locs cells slots Q (F0 m 1059 ls []) := by
  obtain ⟨hx, hb, -⟩ := hc.1
  obtain ⟨r, S1, S2, h1, h2, hIV⟩ := call_quarrel hI (xs (7 * t + 1)) (xs (7 * t + 2)) (xs (7 * t + 3)) (xs (7 * t + 4))
  refine lv_aload_n hx hb dL_law_1059 rfl (lv_at hl 1 rfl) ?_
  refine l_arg hc hG hl (k := 1) (by decide) (by decide) hL dL_law_1060 dL_law_1061 dL_law_1063 dL_law_1064 dL_law_1065 ?_
  refine l_arg hc hG hl (k := 2) (by decide) (by decide) hL dL_law_1066 dL_law_1067 dL_law_1069 dL_law_1070 dL_law_1071 ?_
  refine l_arg hc hG hl (k := 3) (by decide) (by decide) hL dL_law_1072 dL_law_1073 dL_law_1075 dL_law_1076 dL_law_1077 ?_
  refine l_arg hc hG hl (k := 4) (by decide) (by decide) hL dL_law_1078 dL_law_1079 dL_law_1081 dL_law_1082 dL_law_1083 ?_
  refine g_callVi hc.1 hG (As := [.int (xs (7 * t + 1)), .int (xs (7 * t + 2)), .int (xs (7 * t + 3)), .int (xs (7 * t + 4))]) (k := 0) (mX10_quarrel l E h1) lm97 mcX10_quarrel miX10_quarrel rfl rfl rfl rfl hl.1 rfl rfl ⟨Nat.le_of_ble_eq_true rfl, Nat.le_of_ble_eq_true rfl⟩ (Nat.le_of_ble_eq_true rfl) hcs dL_law_1084 rfl (fun H locs hG => ?_)
  refine lv_aload_n hx hb dL_law_1087 rfl (lv_at hl 2 rfl) ?_
  refine l_arg hc hG hl (k := 1) (by decide) (by decide) hL dL_law_1088 dL_law_1089 dL_law_1091 dL_law_1092 dL_law_1093 ?_
  refine l_arg hc hG hl (k := 2) (by decide) (by decide) hL dL_law_1094 dL_law_1095 dL_law_1097 dL_law_1098 dL_law_1099 ?_
  refine l_arg hc hG hl (k := 3) (by decide) (by decide) hL dL_law_1100 dL_law_1101 dL_law_1103 dL_law_1104 dL_law_1105 ?_
  refine l_arg hc hG hl (k := 4) (by decide) (by decide) hL dL_law_1106 dL_law_1107 dL_law_1109 dL_law_1110 dL_law_1111 ?_
  refine g_callVi hc.1 hG (As := [.int (xs (7 * t + 1)), .int (xs (7 * t + 2)), .int (xs (7 * t + 3)), .int (xs (7 * t + 4))]) (k := 54) (mX11_quarrel l E h2) lm100 mcX11_quarrel miX11_quarrel rfl rfl rfl rfl hl.1 rfl rfl ⟨Nat.le_of_ble_eq_true rfl, Nat.le_of_ble_eq_true rfl⟩ (Nat.le_of_ble_eq_true rfl) hcs dL_law_1112 rfl (fun H locs hG => ?_)
  exact lv_icmp_eq (tgt := 1421) hx hb dL_law_1115 (by decide) (fun _ => kk _ H locs hIV hG) (fun q => absurd rfl q)
set_option maxRecDepth 100000 in
set_option maxHeartbeats 4000000 in
theorem lc18 {p : Program} {l : Launch} {e : Env} {s : State} {m : MethodId} {below : List Frame} {meth : Method} {c : Code} {b L t : Nat} {xs : Nat → Int32} {H : Heap} {locs : List Loc} {cells slots : Nat} {Q : State → Prop} {E : GE} {S : GS} {ls : Array Slot} (hc : LW E p s m meth c b L xs) (hI : IV S) (hG : GX E S H locs) (hl : lv_has ls 7 (lvs E b t)) (hL : 7 * t + 7 ≤ L) (hcs : cells ≤ room_1.cells ∧ slots ≤ room_1.slots) (kk : ∀ (S1 : GS) (H1 : Heap) (locs1 : List Loc), IV S1 → GX E S1 H1 locs1 → W p l e room_1 s m #[Value.ref b] below meth c H1 locs1 cells slots Q (F0 m 1421 ls [])) : W p l e room_1 s m #[Value.ref b] below meth c H locs cells slots Q (F0 m 1120 ls []) := by
  obtain ⟨hx, hb, -⟩ := hc.1
  obtain ⟨r, S1, S2, h1, h2, hIV⟩ := call_forgotten hI (xs (7 * t + 1)) (xs (7 * t + 2))
  refine lv_aload_n hx hb dL_law_1120 rfl (lv_at hl 1 rfl) ?_
  refine l_arg hc hG hl (k := 1) (by decide) (by decide) hL dL_law_1121 dL_law_1122 dL_law_1124 dL_law_1125 dL_law_1126 ?_
  refine l_arg hc hG hl (k := 2) (by decide) (by decide) hL dL_law_1127 dL_law_1128 dL_law_1130 dL_law_1131 dL_law_1132 ?_
  refine g_callVi hc.1 hG (As := [.int (xs (7 * t + 1)), .int (xs (7 * t + 2))]) (k := 0) (mX10_forgotten l E h1) lm101 mcX10_forgotten miX10_forgotten rfl rfl rfl rfl hl.1 rfl rfl ⟨Nat.le_of_ble_eq_true rfl, Nat.le_of_ble_eq_true rfl⟩ (Nat.le_of_ble_eq_true rfl) hcs dL_law_1133 rfl (fun H locs hG => ?_)
  refine lv_aload_n hx hb dL_law_1136 rfl (lv_at hl 2 rfl) ?_
  refine l_arg hc hG hl (k := 1) (by decide) (by decide) hL dL_law_1137 dL_law_1138 dL_law_1140 dL_law_1141 dL_law_1142 ?_
  refine l_arg hc hG hl (k := 2) (by decide) (by decide) hL dL_law_1143 dL_law_1144 dL_law_1146 dL_law_1147 dL_law_1148 ?_
  refine g_callVi hc.1 hG (As := [.int (xs (7 * t + 1)), .int (xs (7 * t + 2))]) (k := 54) (mX11_forgotten l E h2) lm104 mcX11_forgotten miX11_forgotten rfl rfl rfl rfl hl.1 rfl rfl ⟨Nat.le_of_ble_eq_true rfl, Nat.le_of_ble_eq_true rfl⟩ (Nat.le_of_ble_eq_true rfl) hcs dL_law_1149 rfl (fun H locs hG => ?_)
  exact lv_icmp_eq (tgt := 1421) hx hb dL_law_1152 (by decide) (fun _ => kk _ H locs hIV hG) (fun q => absurd rfl q)
set_option maxRecDepth 100000 in
set_option maxHeartbeats 4000000 in
theorem lc19 {p : Program} {l : Launch} {e : Env} {s : State} {m : MethodId} {below : List Frame} {meth : Method} {c : Code} {b L t : Nat} {xs : Nat → Int32} {H : Heap} {locs : List Loc} {cells slots : Nat} {Q : State → Prop} {E : GE} {S : GS} {ls : Array Slot} (hc : LW E p s m meth c b L xs) (hI : IV S) (hG : GX E S H locs) (hl : lv_has ls 7 (lvs E b t)) (hL : 7 * t + 7 ≤ L) (hcs : cells ≤ room_1.cells ∧ slots ≤ room_1.slots) (kk : ∀ (S1 : GS) (H1 : Heap) (locs1 : List Loc), IV S1 → GX E S1 H1 locs1 → W p l e room_1 s m #[Value.ref b] below meth c H1 locs1 cells slots Q (F0 m 1421 ls [])) : W p l e room_1 s m #[Value.ref b] below meth c H locs cells slots Q (F0 m 1157 ls []) := by
  obtain ⟨hx, hb, -⟩ := hc.1
  obtain ⟨r, S1, S2, h1, h2, hIV⟩ := call_apart hI (xs (7 * t + 1)) (xs (7 * t + 2)) (xs (7 * t + 3)) (xs (7 * t + 4))
  refine lv_aload_n hx hb dL_law_1157 rfl (lv_at hl 1 rfl) ?_
  refine l_arg hc hG hl (k := 1) (by decide) (by decide) hL dL_law_1158 dL_law_1159 dL_law_1161 dL_law_1162 dL_law_1163 ?_
  refine l_arg hc hG hl (k := 2) (by decide) (by decide) hL dL_law_1164 dL_law_1165 dL_law_1167 dL_law_1168 dL_law_1169 ?_
  refine l_arg hc hG hl (k := 3) (by decide) (by decide) hL dL_law_1170 dL_law_1171 dL_law_1173 dL_law_1174 dL_law_1175 ?_
  refine l_arg hc hG hl (k := 4) (by decide) (by decide) hL dL_law_1176 dL_law_1177 dL_law_1179 dL_law_1180 dL_law_1181 ?_
  refine g_callVi hc.1 hG (As := [.int (xs (7 * t + 1)), .int (xs (7 * t + 2)), .int (xs (7 * t + 3)), .int (xs (7 * t + 4))]) (k := 0) (mX10_apart l E h1) lm105 mcX10_apart miX10_apart rfl rfl rfl rfl hl.1 rfl rfl ⟨Nat.le_of_ble_eq_true rfl, Nat.le_of_ble_eq_true rfl⟩ (Nat.le_of_ble_eq_true rfl) hcs dL_law_1182 rfl (fun H locs hG => ?_)
  refine lv_aload_n hx hb dL_law_1185 rfl (lv_at hl 2 rfl) ?_
  refine l_arg hc hG hl (k := 1) (by decide) (by decide) hL dL_law_1186 dL_law_1187 dL_law_1189 dL_law_1190 dL_law_1191 ?_
  refine l_arg hc hG hl (k := 2) (by decide) (by decide) hL dL_law_1192 dL_law_1193 dL_law_1195 dL_law_1196 dL_law_1197 ?_
  refine l_arg hc hG hl (k := 3) (by decide) (by decide) hL dL_law_1198 dL_law_1199 dL_law_1201 dL_law_1202 dL_law_1203 ?_
  refine l_arg hc hG hl (k := 4) (by decide) (by decide) hL dL_law_1204 dL_law_1205 dL_law_1207 dL_law_1208 dL_law_1209 ?_
  refine g_callVi hc.1 hG (As := [.int (xs (7 * t + 1)), .int (xs (7 * t + 2)), .int (xs (7 * t + 3)), .int (xs (7 * t + 4))]) (k := 54) (mX11_apart l E h2) lm108 mcX11_apart miX11_apart rfl rfl rfl rfl hl.1 rfl rfl ⟨Nat.le_of_ble_eq_true rfl, Nat.le_of_ble_eq_true rfl⟩ (Nat.le_of_ble_eq_true rfl) hcs dL_law_1210 rfl (fun H locs hG => ?_)
  exact lv_icmp_eq (tgt := 1421) hx hb dL_law_1213 (by decide) (fun _ => kk _ H locs hIV hG) (fun q => absurd rfl q)
set_option maxRecDepth 100000 in
set_option maxHeartbeats 4000000 in
theorem lc20 {p : Program} {l : Launch} {e : Env} {s : State} {m : MethodId} {below : List Frame} {meth : Method} {c : Code} {b L t : Nat} {xs : Nat → Int32} {H : Heap} {locs : List Loc} {cells slots : Nat} {Q : State → Prop} {E : GE} {S : GS} {ls : Array Slot} (hc : LW E p s m meth c b L xs) (hI : IV S) (hG : GX E S H locs) (hl : lv_has ls 7 (lvs E b t)) (hL : 7 * t + 7 ≤ L) (hcs : cells ≤ room_1.cells ∧ slots ≤ room_1.slots) (kk : ∀ (S1 : GS) (H1 : Heap) (locs1 : List Loc), IV S1 → GX E S1 H1 locs1 → W p l e room_1 s m #[Value.ref b] below meth c H1 locs1 cells slots Q (F0 m 1421 ls [])) : W p l e room_1 s m #[Value.ref b] below meth c H locs cells slots Q (F0 m 1218 ls []) := by
  obtain ⟨hx, hb, -⟩ := hc.1
  obtain ⟨r, S1, S2, h1, h2, hIV⟩ := call_hangs hI (xs (7 * t + 1)) (xs (7 * t + 2)) (xs (7 * t + 3)) (xs (7 * t + 4)) (xs (7 * t + 5))
  refine lv_aload_n hx hb dL_law_1218 rfl (lv_at hl 1 rfl) ?_
  refine l_arg hc hG hl (k := 1) (by decide) (by decide) hL dL_law_1219 dL_law_1220 dL_law_1222 dL_law_1223 dL_law_1224 ?_
  refine l_arg hc hG hl (k := 2) (by decide) (by decide) hL dL_law_1225 dL_law_1226 dL_law_1228 dL_law_1229 dL_law_1230 ?_
  refine l_arg hc hG hl (k := 3) (by decide) (by decide) hL dL_law_1231 dL_law_1232 dL_law_1234 dL_law_1235 dL_law_1236 ?_
  refine l_arg hc hG hl (k := 4) (by decide) (by decide) hL dL_law_1237 dL_law_1238 dL_law_1240 dL_law_1241 dL_law_1242 ?_
  refine l_arg hc hG hl (k := 5) (by decide) (by decide) hL dL_law_1243 dL_law_1244 dL_law_1246 dL_law_1247 dL_law_1248 ?_
  refine g_callVi hc.1 hG (As := [.int (xs (7 * t + 1)), .int (xs (7 * t + 2)), .int (xs (7 * t + 3)), .int (xs (7 * t + 4)), .int (xs (7 * t + 5))]) (k := 0) (mX10_hangs l E h1) lm109 mcX10_hangs miX10_hangs rfl rfl rfl rfl hl.1 rfl rfl ⟨Nat.le_of_ble_eq_true rfl, Nat.le_of_ble_eq_true rfl⟩ (Nat.le_of_ble_eq_true rfl) hcs dL_law_1249 rfl (fun H locs hG => ?_)
  refine lv_aload_n hx hb dL_law_1252 rfl (lv_at hl 2 rfl) ?_
  refine l_arg hc hG hl (k := 1) (by decide) (by decide) hL dL_law_1253 dL_law_1254 dL_law_1256 dL_law_1257 dL_law_1258 ?_
  refine l_arg hc hG hl (k := 2) (by decide) (by decide) hL dL_law_1259 dL_law_1260 dL_law_1262 dL_law_1263 dL_law_1264 ?_
  refine l_arg hc hG hl (k := 3) (by decide) (by decide) hL dL_law_1265 dL_law_1266 dL_law_1268 dL_law_1269 dL_law_1270 ?_
  refine l_arg hc hG hl (k := 4) (by decide) (by decide) hL dL_law_1271 dL_law_1272 dL_law_1274 dL_law_1275 dL_law_1276 ?_
  refine l_arg hc hG hl (k := 5) (by decide) (by decide) hL dL_law_1277 dL_law_1278 dL_law_1280 dL_law_1281 dL_law_1282 ?_
  refine g_callVi hc.1 hG (As := [.int (xs (7 * t + 1)), .int (xs (7 * t + 2)), .int (xs (7 * t + 3)), .int (xs (7 * t + 4)), .int (xs (7 * t + 5))]) (k := 54) (mX11_hangs l E h2) lm112 mcX11_hangs miX11_hangs rfl rfl rfl rfl hl.1 rfl rfl ⟨Nat.le_of_ble_eq_true rfl, Nat.le_of_ble_eq_true rfl⟩ (Nat.le_of_ble_eq_true rfl) hcs dL_law_1283 rfl (fun H locs hG => ?_)
  exact lv_icmp_eq (tgt := 1421) hx hb dL_law_1286 (by decide) (fun _ => kk _ H locs hIV hG) (fun q => absurd rfl q)
set_option maxRecDepth 100000 in
set_option maxHeartbeats 4000000 in
theorem lc21 {p : Program} {l : Launch} {e : Env} {s : State} {m : MethodId} {below : List Frame} {meth : Method} {c : Code} {b L t : Nat} {xs : Nat → Int32} {H : Heap} {locs : List Loc} {cells slots : Nat} {Q : State → Prop} {E : GE} {S : GS} {ls : Array Slot} (hc : LW E p s m meth c b L xs) (hI : IV S) (hG : GX E S H locs) (hl : lv_has ls 7 (lvs E b t)) (hL : 7 * t + 7 ≤ L) (hcs : cells ≤ room_1.cells ∧ slots ≤ room_1.slots) (kk : ∀ (S1 : GS) (H1 : Heap) (locs1 : List Loc), IV S1 → GX E S1 H1 locs1 → W p l e room_1 s m #[Value.ref b] below meth c H1 locs1 cells slots Q (F0 m 1421 ls [])) : W p l e room_1 s m #[Value.ref b] below meth c H locs cells slots Q (F0 m 1291 ls []) := by
  obtain ⟨hx, hb, -⟩ := hc.1
  obtain ⟨r, S1, S2, h1, h2, hIV⟩ := call_joined hI (xs (7 * t + 1)) (xs (7 * t + 2))
  refine lv_aload_n hx hb dL_law_1291 rfl (lv_at hl 1 rfl) ?_
  refine l_arg hc hG hl (k := 1) (by decide) (by decide) hL dL_law_1292 dL_law_1293 dL_law_1295 dL_law_1296 dL_law_1297 ?_
  refine l_arg hc hG hl (k := 2) (by decide) (by decide) hL dL_law_1298 dL_law_1299 dL_law_1301 dL_law_1302 dL_law_1303 ?_
  refine g_callVi hc.1 hG (As := [.int (xs (7 * t + 1)), .int (xs (7 * t + 2))]) (k := 0) (mX10_joined l E h1) lm113 mcX10_joined miX10_joined rfl rfl rfl rfl hl.1 rfl rfl ⟨Nat.le_of_ble_eq_true rfl, Nat.le_of_ble_eq_true rfl⟩ (Nat.le_of_ble_eq_true rfl) hcs dL_law_1304 rfl (fun H locs hG => ?_)
  refine lv_aload_n hx hb dL_law_1307 rfl (lv_at hl 2 rfl) ?_
  refine l_arg hc hG hl (k := 1) (by decide) (by decide) hL dL_law_1308 dL_law_1309 dL_law_1311 dL_law_1312 dL_law_1313 ?_
  refine l_arg hc hG hl (k := 2) (by decide) (by decide) hL dL_law_1314 dL_law_1315 dL_law_1317 dL_law_1318 dL_law_1319 ?_
  refine g_callVi hc.1 hG (As := [.int (xs (7 * t + 1)), .int (xs (7 * t + 2))]) (k := 54) (mX11_joined l E h2) lm116 mcX11_joined miX11_joined rfl rfl rfl rfl hl.1 rfl rfl ⟨Nat.le_of_ble_eq_true rfl, Nat.le_of_ble_eq_true rfl⟩ (Nat.le_of_ble_eq_true rfl) hcs dL_law_1320 rfl (fun H locs hG => ?_)
  exact lv_icmp_eq (tgt := 1421) hx hb dL_law_1323 (by decide) (fun _ => kk _ H locs hIV hG) (fun q => absurd rfl q)
set_option maxRecDepth 100000 in
set_option maxHeartbeats 4000000 in
theorem lc23 {p : Program} {l : Launch} {e : Env} {s : State} {m : MethodId} {below : List Frame} {meth : Method} {c : Code} {b L t : Nat} {xs : Nat → Int32} {H : Heap} {locs : List Loc} {cells slots : Nat} {Q : State → Prop} {E : GE} {S : GS} {ls : Array Slot} (hc : LW E p s m meth c b L xs) (hI : IV S) (hG : GX E S H locs) (hl : lv_has ls 7 (lvs E b t)) (hL : 7 * t + 7 ≤ L) (hcs : cells ≤ room_1.cells ∧ slots ≤ room_1.slots) (kk : ∀ (S1 : GS) (H1 : Heap) (locs1 : List Loc), IV S1 → GX E S1 H1 locs1 → W p l e room_1 s m #[Value.ref b] below meth c H1 locs1 cells slots Q (F0 m 1421 ls [])) : W p l e room_1 s m #[Value.ref b] below meth c H locs cells slots Q (F0 m 1396 ls []) := by
  obtain ⟨hx, hb, -⟩ := hc.1
  obtain ⟨r, S2, h1, h2, hIV⟩ := both_pure (f := fun S => fX10_count S (xs (7 * t + 1))) (call_count hI (xs (7 * t + 1)))
  refine lv_aload_n hx hb dL_law_1396 rfl (lv_at hl 1 rfl) ?_
  refine l_arg hc hG hl (k := 1) (by decide) (by decide) hL dL_law_1397 dL_law_1398 dL_law_1400 dL_law_1401 dL_law_1402 ?_
  refine g_callVi hc.1 hG (As := [.int (xs (7 * t + 1))]) (k := 0) (mX10_count l E h1) lm126 mcX10_count miX10_count rfl rfl rfl rfl hl.1 rfl rfl ⟨Nat.le_of_ble_eq_true rfl, Nat.le_of_ble_eq_true rfl⟩ (Nat.le_of_ble_eq_true rfl) hcs dL_law_1403 rfl (fun H locs hG => ?_)
  refine lv_aload_n hx hb dL_law_1406 rfl (lv_at hl 2 rfl) ?_
  refine l_arg hc hG hl (k := 1) (by decide) (by decide) hL dL_law_1407 dL_law_1408 dL_law_1410 dL_law_1411 dL_law_1412 ?_
  refine g_callVi hc.1 hG (As := [.int (xs (7 * t + 1))]) (k := 54) (mX11_count l E h2) lm129 mcX11_count miX11_count rfl rfl rfl rfl hl.1 rfl rfl ⟨Nat.le_of_ble_eq_true rfl, Nat.le_of_ble_eq_true rfl⟩ (Nat.le_of_ble_eq_true rfl) hcs dL_law_1413 rfl (fun H locs hG => ?_)
  exact lv_icmp_eq (tgt := 1421) hx hb dL_law_1416 (by decide) (fun _ => kk _ H locs hIV hG) (fun q => absurd rfl q)

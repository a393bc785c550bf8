/-! the law's case of look; the loop -/
theorem lm117 : Cond.methodLink RL 117 yL_look ∈ lw_g := lw_g_of 940 (by decide +kernel) (by decide +kernel)
theorem lm122 : Cond.methodLink RL 122 yX11_look ∈ lw_g := lw_g_of 1524 (by decide +kernel) (by decide +kernel)
theorem lm123 : Cond.methodLink RL 123 yX11_thrown ∈ lw_g := (List.mem_filter.mpr ⟨(show Cond.methodLink RL 123 yX11_thrown ∈ lw_tbl by decide +kernel), by decide +kernel⟩)
theorem lst117 : Cond.static yL_look ∈ lw_g := lw_g_of 941 (by decide +kernel) (by decide +kernel)
theorem lcw117 : Cond.codeWith yL_look cL_look 5 (some .int) lHh ∈ lw_g := lw_g_of 942 (by decide +kernel) (by decide +kernel)
theorem lin117 : Cond.initialized yL_look.cls ∈ lw_g := lw_g_of 0 (by decide +kernel) (by decide +kernel)
/-- the invariant doesn't speak of the law's row -/
theorem IV_out {S : GS} (h : IV S) (x : Int64) : IV (gsl S 87 0 x) := h
theorem IV_k {S : GS} (h : IV S) (a b : Int32) : ∃ (nk : Nat) (res : Int32 ⊕ String) (k : Int32) (S1 : GS) (v : Int32), S.1 7 0 = nI nk ∧ nk ≤ 32 ∧ kRs S nk a b res ∧ kEnd S res k S1 ∧ IV S1 ∧ fX11_look S1 a b = some (v, gsi S1 54 0 k) ∧ (k = 0 → S1.2.1 87 0 = v.toInt64) := by
  obtain ⟨nk, h1, h2, h3, h4, h5⟩ := ref_look h a b
  cases g : gib a nk
  · exact ⟨nk, .inr tIo, 1, S, 0, h1, h2, Or.inl ⟨g, rfl⟩, Or.inr (Or.inl ⟨rfl, rfl, rfl⟩), h, h3 g, fun q => absurd q (by decide)⟩
  · by_cases c1 : b < 0 ∨ 4 < b
    · exact ⟨nk, .inr tNs, 2, S, 0, h1, h2, Or.inr (Or.inl ⟨g, c1, rfl⟩), Or.inr (Or.inr ⟨rfl, rfl, rfl⟩), h, h4 g c1, fun q => absurd q (by decide)⟩
    · obtain ⟨j, hj, rfl⟩ := nI_of (fun q => c1 (Or.inl q))
      have hj5 : j < 5 := by
        refine Nat.lt_of_not_le fun q => c1 (Or.inr ?_)
        exact nI_lt (a := 4) (by omega) hj
      refine ⟨nk, .inl (S.1 (8 + j) a.toNatClampNeg), 0, gsl S 87 0 (S.1 (8 + j) a.toNatClampNeg).toInt64, S.1 (8 + j) a.toNatClampNeg, h1, h2, Or.inr (Or.inr ⟨g, j, hj5, rfl, rfl⟩), Or.inl ⟨_, rfl, rfl, rfl⟩, IV_out h _, ?_, fun _ => ?_⟩
      · obtain ⟨nk', h1', h2', h3', h4', h5'⟩ := ref_look (IV_out h (S.1 (8 + j) a.toNatClampNeg).toInt64) a (nI j)
        have e : nk' = nk := (nI_eq (by omega) (by omega)).mp (h1'.symm.trans h1)
        subst e
        exact h5' g j hj5 rfl
      · simp [gsl]
theorem lg_same (x : Int64) : lg_cmp x x = 0 := by
  unfold lg_cmp
  simp
section
variable {p : Program} {l : Launch} {e : Env} {s : State} {m : MethodId} {below : List Frame} {meth : Method} {c : Code} {b L t : Nat} {xs : Nat → Int32} {H : Heap} {locs : List Loc} {cells slots : Nat} {Q : State → Prop}
variable {E : GE} {S : GS} {ls : Array Slot}
set_option maxRecDepth 100000 in
set_option maxHeartbeats 4000000 in
theorem lc22 (hlt : l.stackTraces = false) (hc : LW E p s m meth c b L xs) (hI : IV S) (hG : GX E S H locs) (hl : lv_has ls 7 (lvs E b t)) (hL : 7 * t + 7 ≤ L) (hcs : cells + 1 ≤ room_1.cells ∧ slots + 6 ≤ room_1.slots)
    (kk : ∀ (S1 : GS) (H1 : Heap) (locs1 : List Loc) (ls1 : Array Slot), IV S1 → GX E S1 H1 locs1 → lv_has ls1 7 (lvs E b t) → W p l e room_1 s m #[Value.ref b] below meth c H1 locs1 (cells + 1) (slots + 6) Q (F0 m 1421 ls1 [])) : W p l e room_1 s m #[Value.ref b] below meth c H locs cells slots Q (F0 m 1328 ls []) := by
  obtain ⟨hx, hb, hml, hr, hlk, hown, hts, hK, -⟩ := hc.1
  obtain ⟨nk, res, k, S1, v, h7, hnk, hres, hk, hI1, h2, hv⟩ := IV_k hI (xs (7 * t + 1)) (xs (7 * t + 2))
  refine lv_aload_n hx hb dL_law_1328 rfl (lv_at hl 1 rfl) ?_
  refine l_arg hc hG hl (k := 1) (by decide) (by decide) hL dL_law_1329 dL_law_1330 dL_law_1332 dL_law_1333 dL_law_1334 ?_
  refine l_arg hc hG hl (k := 2) (by decide) (by decide) hL dL_law_1335 dL_law_1336 dL_law_1338 dL_law_1339 dL_law_1340 ?_
  refine lv_aload_n hx hb dL_law_1341 rfl (lv_at hl 3 rfl) ?_
  have cw : vx_CSW room_1 s #[Value.ref b] RL 117 yL_look cL_look 5 (some .int) lHh (Cond.codeWith yL_look cL_look 5 (some .int) lHh :: lw_g) rmL_look 1 6 4 := by
    refine ⟨⟨rfl, rfl, Nat.le_of_ble_eq_true rfl, Nat.le_of_ble_eq_true rfl, pay_in hts (fun w hw => ?_), List.mem_cons_self⟩, hts _ lcw117, hts _ lin117, by decide, fun sig h => ?_, hts _ lm117, hts _ lst117⟩
    · rcases List.mem_cons.mp hw with rfl | hw
      · exact lw_g_good _ lcw117
      · exact lw_g_good _ hw
    · have h2 : (parseMethodDescriptor yL_look.desc).map (fun d => d.parameters.length) = some 4 := by decide +kernel
      rw [h] at h2
      exact (Option.some.inj h2).symm
  refine g_ranN (av := [gR E 0, .int (xs (7 * t + 1)), .int (xs (7 * t + 2)), gR E 87]) (vx_runSW (hh := lHh) (As := [gR E 0, .int (xs (7 * t + 1)), .int (xs (7 * t + 2)), gR E 87]) (rest := []) ⟨hx, hb, hml, hown, hts⟩ (mL_look l hlt E h7 hnk hres hk) cw ⟨kPre_blind E _ S, fun U hU hW => ⟨rfl, by rw [hU]; exact hG.nil, hK.moved hW, hc.2.1.al hW.alike⟩⟩ rfl rfl hl.1 rfl (Nat.le_of_ble_eq_true rfl) dL_law_1342 hcs) hG (fun H locs hG => ?_)
  refine lv_istore (lv' := [(5, .int k), (0, .ref b), (1, gR E 0), (2, gR E 54), (3, gR E 87), (4, .int (nI (7 * t)))]) hx hb dL_law_1345 hl (by decide) rfl (fun ls hl => ?_)
  have hl0 : lv_has ls 7 (lvs E b t) := lv_sub hl [1, 2, 3, 4, 5] rfl
  refine lv_aload_n hx hb dL_law_1347 rfl (lv_at hl0 2 rfl) ?_
  refine l_arg hc hG hl0 (k := 1) (by decide) (by decide) hL dL_law_1348 dL_law_1349 dL_law_1351 dL_law_1352 dL_law_1353 ?_
  refine l_arg hc hG hl0 (k := 2) (by decide) (by decide) hL dL_law_1354 dL_law_1355 dL_law_1357 dL_law_1358 dL_law_1359 ?_
  refine g_callVi hc.1 hG (As := [.int (xs (7 * t + 1)), .int (xs (7 * t + 2))]) (k := 54) (mX11_look l E h2) lm122 mcX11_look miX11_look rfl rfl rfl rfl hl.1 rfl rfl ⟨Nat.le_of_ble_eq_true rfl, Nat.le_of_ble_eq_true rfl⟩ (Nat.le_of_ble_eq_true rfl) hcs dL_law_1360 rfl (fun H locs hG => ?_)
  refine lv_istore (lv' := [(6, .int v), (5, .int k), (0, .ref b), (1, gR E 0), (2, gR E 54), (3, gR E 87), (4, .int (nI (7 * t)))]) hx hb dL_law_1363 hl (by decide) rfl (fun ls hl => ?_)
  have hl1 : lv_has ls 7 (lvs E b t) := lv_sub hl [2, 3, 4, 5, 6] rfl
  refine lv_aload_n hx hb dL_law_1365 rfl (lv_at hl1 2 rfl) ?_
  have h3 : fX11_thrown (gsi S1 54 0 k) = some k := by
    unfold fX11_thrown
    rw [gsi_s]
  refine g_callVi hc.1 hG (As := []) (k := 54) (mX11_thrown l E h3) lm123 mcX11_thrown miX11_thrown rfl rfl rfl rfl hl.1 rfl rfl ⟨Nat.le_of_ble_eq_true rfl, Nat.le_of_ble_eq_true rfl⟩ (Nat.le_of_ble_eq_true rfl) hcs dL_law_1366 rfl (fun H locs hG => ?_)
  refine lv_iload hx hb dL_law_1369 (lv_at hl 1 rfl) ?_
  refine lv_icmp_eq (tgt := 1376) hx hb dL_law_1371 (by decide) (fun _ => ?_) (fun q => absurd rfl q)
  refine lv_iload hx hb dL_law_1376 (lv_at hl 1 rfl) ?_
  have hI2 : IV (gsi S1 54 0 k) := IV_thr hI1 k
  have go : ∀ (H1 : Heap) (locs1 : List Loc), GX E (gsi S1 54 0 k) H1 locs1 → W p l e room_1 s m #[Value.ref b] below meth c H1 locs1 (cells + 1) (slots + 6) Q (F0 m 1393 ls []) := fun H1 locs1 hG => lv_goto (tgt := 1421) hx hb dL_law_1393 (by decide) (kk _ H1 locs1 ls hI2 hG hl1)
  refine lv_if_ne (tgt := 1393) hx hb dL_law_1378 (by decide) (fun _ => go H locs hG) (fun q => ?_)
  refine lv_aload_n hx hb dL_law_1381 rfl (lv_at hl1 3 rfl) ?_
  refine lv_iconst (v := (0 : Int32)) hx hb dL_law_1382 (by decide) ?_
  refine g_lald hc.1 hG 87 1 0 rfl rfl (by decide) rfl dL_law_1383 ?_
  refine lv_iload hx hb dL_law_1384 (lv_at hl 0 rfl) ?_
  refine lv_i2l (v := v.toInt64) hx hb dL_law_1386 rfl ?_
  refine W.lcmp hx hb dL_law_1387 ?_
  rw [show (gsi S1 54 0 k).2.1 87 0 = v.toInt64 from hv q, lg_same]
  exact lv_if_eq (tgt := 1393) hx hb dL_law_1388 (by decide) (fun _ => go H locs hG) (fun q => absurd rfl q)
end

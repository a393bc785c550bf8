abbrev rmX10_joined : Room := { frames := 5, cells := 0, slots := 0, locals := 108 }
def fX10_joined (S : GS) (a1 : Int32) (a2 : Int32) : Option (Int32 × GS) := gbv (fX10_isPoint S a1) fun r2 => (if r2 = 0 then (some ((-1 : Int32), S)) else gbv (fX10_isDay S a2) fun r5 => (if r5 = 0 then (some ((-1 : Int32), S)) else gbd (fX3_see S a2 (-1 : Int32)) fun r8 S9 => (if gib a1 12 = true then (some ((S9.1 37 a1.toNatClampNeg), S9)) else none)))
set_option maxRecDepth 100000 in
set_option maxHeartbeats 4000000 in
theorem wX10_joined_0 {p : Program} {l : Launch} {e : Env} {s : State} {m : MethodId} {args : Array Value} {below : List Frame} {meth : Method} {c : Code} {E : GE} {res : (Int32 × GS)} (hc : GM E p s m args meth c RX10 cX10_joined 3 (some .int)) : ∀ (S : GS) (a1 : Int32) (a2 : Int32) (H : Heap) (locs : List Loc) (ls : Array Slot), lv_has ls 3 [(0, gR E 0), (1, .int a1), (2, .int a2)] → GX E S H locs → fX10_joined S a1 a2 = some res → W p l e rmX10_joined s m args below meth c H locs 0 0 (gZ E below args s (some (.int res.1)) res.2) (F0 m 0 ls []) := by
  obtain ⟨hx, hb, -, -, -, hown, hts, -, -⟩ := id hc
  intro S a1 a2 H locs ls hl hG h
  unfold fX10_joined at h
  refine lv_aload_n hx hb dX10_joined_0 rfl (lv_at hl 0 rfl) ?_
  refine lv_iload_n hx hb dX10_joined_1 rfl (lv_at hl 1 rfl) ?_
  obtain ⟨r2, hm1, h⟩ := g_bv h
  refine g_callVi (As := [.int a1]) hc hG (mX10_isPoint l E hm1) mlX10_116 mcX10_isPoint miX10_isPoint rfl rfl rfl rfl hl.1 rfl rfl ⟨by decide, by decide⟩ (Nat.le_of_ble_eq_true rfl) ⟨by decide, by decide⟩ dX10_joined_2 rfl (fun H locs hG => ?_)
  refine lv_if_eq (tgt := 15) hx hb dX10_joined_5 (by decide) (fun c3 => ?_) (fun c3 => ?_)
  · have h := g_pos c3 h
    refine lv_iconst (v := (-1 : Int32)) hx hb dX10_joined_15 (by decide) ?_
    exact g_iret hc hG dX10_joined_16 h
  · have h := g_neg c3 h
    refine lv_iload_n hx hb dX10_joined_8 rfl (lv_at hl 2 rfl) ?_
    obtain ⟨r5, hm4, h⟩ := g_bv h
    refine g_callSi (As := [.int a2]) hc hG (mX10_isDay l E hm4) mlX10_102 mcX10_isDay msX10_isDay rfl hl.1 rfl rfl ⟨by decide, by decide⟩ (Nat.le_of_ble_eq_true rfl) ⟨by decide, by decide⟩ dX10_joined_9 rfl (fun H locs hG => ?_)
    refine lv_if_ne (tgt := 17) hx hb dX10_joined_12 (by decide) (fun c6 => ?_) (fun c6 => ?_)
    · have h := g_neg c6 h
      refine lv_aload_n hx hb dX10_joined_17 rfl (lv_at hl 0 rfl) ?_
      refine g_getR hc hG 0 35 flX10_70 rfl rfl rfl dX10_joined_18 ?_
      refine g_getR hc hG 35 36 flX10_160 rfl rfl rfl dX10_joined_21 ?_
      refine lv_iload_n hx hb dX10_joined_24 rfl (lv_at hl 2 rfl) ?_
      refine lv_iconst (v := (-1 : Int32)) hx hb dX10_joined_25 (by decide) ?_
      obtain ⟨r8, S9, hm7, h⟩ := g_bd h
      refine g_callVv (As := [.int a2, .int (-1 : Int32)]) hc hG (mX3_see l E hm7) mlX10_204 mcX3_see miX3_see rfl rfl rfl rfl hl.1 rfl rfl ⟨by decide, by decide⟩ (Nat.le_of_ble_eq_true rfl) ⟨by decide, by decide⟩ dX10_joined_26 rfl (fun H locs hG => ?_)
      refine lv_aload_n hx hb dX10_joined_29 rfl (lv_at hl 0 rfl) ?_
      refine g_getR hc hG 0 35 flX10_70 rfl rfl rfl dX10_joined_30 ?_
      refine g_getR hc hG 35 36 flX10_160 rfl rfl rfl dX10_joined_33 ?_
      refine g_getR hc hG 36 37 flX10_164 rfl rfl rfl dX10_joined_36 ?_
      refine lv_iload_n hx hb dX10_joined_39 rfl (lv_at hl 1 rfl) ?_
      obtain ⟨hi10, h⟩ := g_if h
      refine g_iald hc hG 37 12 (a1.toNatClampNeg) rfl rfl hi10 rfl dX10_joined_40 ?_
      exact g_iret hc hG dX10_joined_41 h
    · have h := g_pos c6 h
      refine lv_iconst (v := (-1 : Int32)) hx hb dX10_joined_15 (by decide) ?_
      exact g_iret hc hG dX10_joined_16 h
theorem mX10_joined (l : Launch) (E : GE) {S : GS} {a1 : Int32} {a2 : Int32} {res : (Int32 × GS)} (h : fX10_joined S a1 a2 = some res) : gMet l E yX10_joined cX10_joined 3 (some .int) rmX10_joined [gR E 0, .int a1, .int a2] S (some (.int res.1)) res.2 :=
  g_met (by decide) (Nat.le_of_ble_eq_true rfl) rfl fun p e s m below meth c H ls hc hG hl => wX10_joined_0 hc S a1 a2 H [] ls hl hG h
abbrev rmX10_count : Room := { frames := 0, cells := 0, slots := 0, locals := 0 }
def fX10_count (S : GS) (a1 : Int32) : Option Int32 := (if a1 = (0 : Int32) then (some (S.1 0 2)) else (if a1 = (1 : Int32) then (some (S.1 2 0)) else (if a1 = (2 : Int32) then (some (S.1 5 0)) else (if a1 = (3 : Int32) then (some (S.1 7 0)) else (if a1 = (4 : Int32) then (some (S.1 14 0)) else (if a1 = (5 : Int32) then (if gk (S.2.2 0) = 7 then (some (S.1 (S.2.2 0) 1)) else none) else (if a1 = (6 : Int32) then (if gk (S.2.2 0) = 7 then (some (S.1 (S.2.2 0) 2)) else none) else (some (-1 : Int32)))))))))
set_option maxRecDepth 100000 in
set_option maxHeartbeats 4000000 in
theorem wX10_count_0 {p : Program} {l : Launch} {e : Env} {s : State} {m : MethodId} {args : Array Value} {below : List Frame} {meth : Method} {c : Code} {E : GE} {res : Int32} (hc : GM E p s m args meth c RX10 cX10_count 2 (some .int)) : ∀ (S : GS) (a1 : Int32) (H : Heap) (locs : List Loc) (ls : Array Slot), lv_has ls 2 [(0, gR E 0), (1, .int a1)] → GX E S H locs → fX10_count S a1 = some res → W p l e rmX10_count s m args below meth c H locs 0 0 (gZ E below args s (some (.int res)) S) (F0 m 0 ls []) := by
  obtain ⟨hx, hb, -, -, -, hown, hts, -, -⟩ := id hc
  intro S a1 H locs ls hl hG h
  unfold fX10_count at h
  refine lv_iload_n hx hb dX10_count_0 rfl (lv_at hl 1 rfl) ?_
  by_cases c1 : a1 = (0 : Int32)
  · have h := g_pos c1 h
    refine lv_tableIn (off := 43) (tgt := 44) hx hb dX10_count_1 (by rw [c1]; decide) (by rw [c1]; decide) (by rw [c1]; decide) (by decide) ?_
    refine lv_aload_n hx hb dX10_count_44 rfl (lv_at hl 0 rfl) ?_
    refine g_getI hc hG 0 flX10_106 rfl rfl dX10_count_45 ?_
    exact g_iretp hc hG dX10_count_48 h
  have h := g_neg c1 h
  by_cases c2 : a1 = (1 : Int32)
  · have h := g_pos c2 h
    refine lv_tableIn (off := 48) (tgt := 49) hx hb dX10_count_1 (by rw [c2]; decide) (by rw [c2]; decide) (by rw [c2]; decide) (by decide) ?_
    refine lv_aload_n hx hb dX10_count_49 rfl (lv_at hl 0 rfl) ?_
    refine g_getR hc hG 0 2 flX10_16 rfl rfl rfl dX10_count_50 ?_
    refine g_getI hc hG 2 flX10_229 rfl rfl dX10_count_53 ?_
    exact g_iretp hc hG dX10_count_56 h
  have h := g_neg c2 h
  by_cases c3 : a1 = (2 : Int32)
  · have h := g_pos c3 h
    refine lv_tableIn (off := 56) (tgt := 57) hx hb dX10_count_1 (by rw [c3]; decide) (by rw [c3]; decide) (by rw [c3]; decide) (by decide) ?_
    refine lv_aload_n hx hb dX10_count_57 rfl (lv_at hl 0 rfl) ?_
    refine g_getR hc hG 0 5 flX10_23 rfl rfl rfl dX10_count_58 ?_
    refine g_getI hc hG 5 flX10_113 rfl rfl dX10_count_61 ?_
    exact g_iretp hc hG dX10_count_64 h
  have h := g_neg c3 h
  by_cases c4 : a1 = (3 : Int32)
  · have h := g_pos c4 h
    refine lv_tableIn (off := 64) (tgt := 65) hx hb dX10_count_1 (by rw [c4]; decide) (by rw [c4]; decide) (by rw [c4]; decide) (by decide) ?_
    refine lv_aload_n hx hb dX10_count_65 rfl (lv_at hl 0 rfl) ?_
    refine g_getR hc hG 0 7 flX10_30 rfl rfl rfl dX10_count_66 ?_
    refine g_getI hc hG 7 flX10_230 rfl rfl dX10_count_69 ?_
    exact g_iretp hc hG dX10_count_72 h
  have h := g_neg c4 h
  by_cases c5 : a1 = (4 : Int32)
  · have h := g_pos c5 h
    refine lv_tableIn (off := 72) (tgt := 73) hx hb dX10_count_1 (by rw [c5]; decide) (by rw [c5]; decide) (by rw [c5]; decide) (by decide) ?_
    refine lv_aload_n hx hb dX10_count_73 rfl (lv_at hl 0 rfl) ?_
    refine g_getR hc hG 0 14 flX10_37 rfl rfl rfl dX10_count_74 ?_
    refine g_getI hc hG 14 flX10_148 rfl rfl dX10_count_77 ?_
    exact g_iretp hc hG dX10_count_80 h
  have h := g_neg c5 h
  by_cases c6 : a1 = (5 : Int32)
  · have h := g_pos c6 h
    refine lv_tableIn (off := 80) (tgt := 81) hx hb dX10_count_1 (by rw [c6]; decide) (by rw [c6]; decide) (by rw [c6]; decide) (by decide) ?_
    refine lv_aload_n hx hb dX10_count_81 rfl (lv_at hl 0 rfl) ?_
    refine g_getR hc hG 0 (S.2.2 0) flX10_44 rfl rfl rfl dX10_count_82 ?_
    obtain ⟨hk7, h⟩ := g_if h
    refine g_getI hc hG (S.2.2 0) flX10_231 hk7 rfl dX10_count_85 ?_
    exact g_iretp hc hG dX10_count_88 h
  have h := g_neg c6 h
  by_cases c8 : a1 = (6 : Int32)
  · have h := g_pos c8 h
    refine lv_tableIn (off := 88) (tgt := 89) hx hb dX10_count_1 (by rw [c8]; decide) (by rw [c8]; decide) (by rw [c8]; decide) (by decide) ?_
    refine lv_aload_n hx hb dX10_count_89 rfl (lv_at hl 0 rfl) ?_
    refine g_getR hc hG 0 (S.2.2 0) flX10_44 rfl rfl rfl dX10_count_90 ?_
    obtain ⟨hk9, h⟩ := g_if h
    refine g_getI hc hG (S.2.2 0) flX10_234 hk9 rfl dX10_count_93 ?_
    exact g_iretp hc hG dX10_count_96 h
  have h := g_neg c8 h
  have zc1 : ¬ Int32.toInt a1 = 0 := fun q => c1 (Int32.toInt_inj.mp (q.trans (by decide)))
  have zc2 : ¬ Int32.toInt a1 = 1 := fun q => c2 (Int32.toInt_inj.mp (q.trans (by decide)))
  have zc3 : ¬ Int32.toInt a1 = 2 := fun q => c3 (Int32.toInt_inj.mp (q.trans (by decide)))
  have zc4 : ¬ Int32.toInt a1 = 3 := fun q => c4 (Int32.toInt_inj.mp (q.trans (by decide)))
  have zc5 : ¬ Int32.toInt a1 = 4 := fun q => c5 (Int32.toInt_inj.mp (q.trans (by decide)))
  have zc6 : ¬ Int32.toInt a1 = 5 := fun q => c6 (Int32.toInt_inj.mp (q.trans (by decide)))
  have zc8 : ¬ Int32.toInt a1 = 6 := fun q => c8 (Int32.toInt_inj.mp (q.trans (by decide)))
  refine lv_tableOut (tgt := 97) hx hb dX10_count_1 (by omega) (by decide) ?_
  refine lv_iconst (v := (-1 : Int32)) hx hb dX10_count_97 (by decide) ?_
  exact g_iretp hc hG dX10_count_98 h
theorem mX10_count (l : Launch) (E : GE) {S : GS} {a1 : Int32} {res : Int32} (h : fX10_count S a1 = some res) : gMet l E yX10_count cX10_count 2 (some .int) rmX10_count [gR E 0, .int a1] S (some (.int res)) S :=
  g_met (by decide) (Nat.le_of_ble_eq_true rfl) rfl fun p e s m below meth c H ls hc hG hl => wX10_count_0 hc S a1 H [] ls hl hG h
abbrev rmX11_thrown : Room := { frames := 0, cells := 0, slots := 0, locals := 0 }
def fX11_thrown (S : GS) : Option Int32 := (some (S.1 54 0))
set_option maxRecDepth 100000 in
set_option maxHeartbeats 4000000 in
theorem wX11_thrown_0 {p : Program} {l : Launch} {e : Env} {s : State} {m : MethodId} {args : Array Value} {below : List Frame} {meth : Method} {c : Code} {E : GE} {res : Int32} (hc : GM E p s m args meth c RX11 cX11_thrown 1 (some .int)) : ∀ (S : GS) (H : Heap) (locs : List Loc) (ls : Array Slot), lv_has ls 1 [(0, gR E 54)] → GX E S H locs → fX11_thrown S = some res → W p l e rmX11_thrown s m args below meth c H locs 0 0 (gZ E below args s (some (.int res)) S) (F0 m 0 ls []) := by
  obtain ⟨hx, hb, -, -, -, hown, hts, -, -⟩ := id hc
  intro S H locs ls hl hG h
  unfold fX11_thrown at h
  refine lv_aload_n hx hb dX11_thrown_0 rfl (lv_at hl 0 rfl) ?_
  refine g_getI hc hG 54 flX11_115 rfl rfl dX11_thrown_1 ?_
  exact g_iretp hc hG dX11_thrown_4 h
theorem mX11_thrown (l : Launch) (E : GE) {S : GS} {res : Int32} (h : fX11_thrown S = some res) : gMet l E yX11_thrown cX11_thrown 1 (some .int) rmX11_thrown [gR E 54] S (some (.int res)) S :=
  g_met (by decide) (Nat.le_of_ble_eq_true rfl) rfl fun p e s m below meth c H ls hc hG hl => wX11_thrown_0 hc S H [] ls hl hG h
abbrev rmX11_feed : Room := { frames := 0, cells := 0, slots := 0, locals := 0 }
def fX11_feed_73 (k20 : GS → Int32 → Int32 → Int32 → Int32 → Int32 → Int32 → Option (Int32 × GS)) (S : GS) (t0 : Int32) (a1 : Int32) (a2 : Int32) (a3 : Int32) (a4 : Int32) (a5 : Int32) (a6 : Int32) : Option (Int32 × GS) := (if gib ((S.1 54 2) + a6) 400 = true then glet (gsi S 55 ((((S.1 54 2) + a6)).toNatClampNeg) ((t0 >>> (((24 : Int32) - ((8 : Int32) * (a6 - a6 / (4 : Int32) * (4 : Int32)))) &&& 31)) &&& (255 : Int32))) fun S2 => glet (a6 + (1 : Int32)) fun v3 => (k20 S2 a1 a2 a3 a4 a5 v3) else none)
set_option maxRecDepth 100000 in
set_option maxHeartbeats 4000000 in
theorem wX11_feed_73 {p : Program} {l : Launch} {e : Env} {s : State} {m : MethodId} {args : Array Value} {below : List Frame} {meth : Method} {c : Code} {E : GE} {res : (Int32 × GS)} {k20 : GS → Int32 → Int32 → Int32 → Int32 → Int32 → Int32 → Option (Int32 × GS)} (hc : GM E p s m args meth c RX11 cX11_feed 8 (some .int)) (hk20 : ∀ (S : GS) (a1 : Int32) (a2 : Int32) (a3 : Int32) (a4 : Int32) (a5 : Int32) (a6 : Int32) (H : Heap) (locs : List Loc) (ls : Array Slot), lv_has ls 8 [(0, gR E 54), (1, .int a1), (2, .int a2), (3, .int a3), (4, .int a4), (5, .int a5), (6, .int a6)] → GX E S H locs → k20 S a1 a2 a3 a4 a5 a6 = some res → W p l e rmX11_feed s m args below meth c H locs 0 0 (gZ E below args s (some (.int res.1)) res.2) (F0 m 20 ls [])) : ∀ (S : GS) (t0 : Int32) (a1 : Int32) (a2 : Int32) (a3 : Int32) (a4 : Int32) (a5 : Int32) (a6 : Int32) (H : Heap) (locs : List Loc) (ls : Array Slot), lv_has ls 8 [(0, gR E 54), (1, .int a1), (2, .int a2), (3, .int a3), (4, .int a4), (5, .int a5), (6, .int a6)] → GX E S H locs → fX11_feed_73 k20 S t0 a1 a2 a3 a4 a5 a6 = some res → W p l e rmX11_feed s m args below meth c H locs 0 0 (gZ E below args s (some (.int res.1)) res.2) (F0 m 73 ls [.int t0]) := by
  obtain ⟨hx, hb, -, -, -, hown, hts, -, -⟩ := id hc
  intro S t0 a1 a2 a3 a4 a5 a6 H locs ls hl hG h
  unfold fX11_feed_73 at h
  refine lv_istore (lv' := [(7, .int t0), (0, gR E 54), (1, .int a1), (2, .int a2), (3, .int a3), (4, .int a4), (5, .int a5), (6, .int a6)]) hx hb dX11_feed_73 hl (by decide) rfl (fun ls hl => ?_)
  refine lv_aload_n hx hb dX11_feed_75 rfl (lv_at hl 1 rfl) ?_
  refine g_getR hc hG 54 55 flX11_7 rfl rfl rfl dX11_feed_76 ?_
  refine lv_aload_n hx hb dX11_feed_79 rfl (lv_at hl 1 rfl) ?_
  refine g_getI hc hG 54 flX11_118 rfl rfl dX11_feed_80 ?_
  refine lv_iload hx hb dX11_feed_83 (lv_at hl 7 rfl) ?_
  refine lv_iadd hx hb dX11_feed_85 ?_
  refine lv_iload hx hb dX11_feed_86 (lv_at hl 0 rfl) ?_
  refine lv_bipush (v := (24 : Int32)) hx hb dX11_feed_88 (by decide) ?_
  refine lv_bipush (v := (8 : Int32)) hx hb dX11_feed_90 (by decide) ?_
  refine lv_iload hx hb dX11_feed_92 (lv_at hl 7 rfl) ?_
  refine lv_iconst (v := (4 : Int32)) hx hb dX11_feed_94 (by decide) ?_
  refine lv_irem hx hb dX11_feed_95 (by decide) ?_
  refine lv_imul hx hb dX11_feed_96 ?_
  refine lv_isub hx hb dX11_feed_97 ?_
  refine lv_ishr hx hb dX11_feed_98 ?_
  refine lv_sipush (v := (255 : Int32)) hx hb dX11_feed_99 (by decide) ?_
  refine lv_iand hx hb dX11_feed_102 ?_
  obtain ⟨hi1, h⟩ := g_if h
  refine g_iast hc hG 55 400 ((((S.1 54 2) + a6)).toNatClampNeg) rfl rfl hi1 rfl dX11_feed_103 (fun S2 H locs eS2 hG => ?_)
  have h := g_let eS2 h
  obtain ⟨v3, ev3⟩ : ∃ y : Int32, y = (a6 + (1 : Int32)) := ⟨_, rfl⟩
  have h := g_let ev3 h
  refine lv_iinc (v := v3) (lv' := [(6, .int v3), (7, .int t0), (0, gR E 54), (1, .int a1), (2, .int a2), (3, .int a3), (4, .int a4), (5, .int a5)]) hx hb dX11_feed_104 hl (k := 7) rfl (by rw [ev3]; rfl) (by decide) rfl (fun ls hl => ?_)
  refine lv_goto (tgt := 20) hx hb dX11_feed_107 (by decide) ?_
  exact hk20 S2 a1 a2 a3 a4 a5 v3 _ _ _ (lv_sub hl [2, 3, 4, 5, 6, 7, 0] rfl) hG h
def fX11_feed_20 : Nat → GS → Int32 → Int32 → Int32 → Int32 → Int32 → Int32 → Option (Int32 × GS)
  | 0, _, _, _, _, _, _, _ => none
  | n + 1, S, a1, a2, a3, a4, a5, a6 => (if (20 : Int32) ≤ a6 then glet (gsi S 54 2 ((S.1 54 2) + (20 : Int32))) fun S2 => (some ((S2.1 54 2), S2)) else (if (4 : Int32) ≤ a6 then (if (8 : Int32) ≤ a6 then (if (12 : Int32) ≤ a6 then (if (16 : Int32) ≤ a6 then (fX11_feed_73 (fX11_feed_20 n) S a5 a1 a2 a3 a4 a5 a6) else (fX11_feed_73 (fX11_feed_20 n) S a4 a1 a2 a3 a4 a5 a6)) else (fX11_feed_73 (fX11_feed_20 n) S a3 a1 a2 a3 a4 a5 a6)) else (fX11_feed_73 (fX11_feed_20 n) S a2 a1 a2 a3 a4 a5 a6)) else (fX11_feed_73 (fX11_feed_20 n) S a1 a1 a2 a3 a4 a5 a6)))
set_option maxRecDepth 100000 in
set_option maxHeartbeats 4000000 in
theorem wX11_feed_20 {p : Program} {l : Launch} {e : Env} {s : State} {m : MethodId} {args : Array Value} {below : List Frame} {meth : Method} {c : Code} {E : GE} {res : (Int32 × GS)} (hc : GM E p s m args meth c RX11 cX11_feed 8 (some .int)) : ∀ (n : Nat), ∀ (S : GS) (a1 : Int32) (a2 : Int32) (a3 : Int32) (a4 : Int32) (a5 : Int32) (a6 : Int32) (H : Heap) (locs : List Loc) (ls : Array Slot), lv_has ls 8 [(0, gR E 54), (1, .int a1), (2, .int a2), (3, .int a3), (4, .int a4), (5, .int a5), (6, .int a6)] → GX E S H locs → fX11_feed_20 n S a1 a2 a3 a4 a5 a6 = some res → W p l e rmX11_feed s m args below meth c H locs 0 0 (gZ E below args s (some (.int res.1)) res.2) (F0 m 20 ls []) := by
  obtain ⟨hx, hb, -, -, -, hown, hts, -, -⟩ := id hc
  intro n
  induction n with
  | zero => intro S a1 a2 a3 a4 a5 a6 H locs ls hl hG h; cases h
  | succ n ih =>
    intro S a1 a2 a3 a4 a5 a6 H locs ls hl hG h
    rw [fX11_feed_20] at h
    refine lv_iload hx hb dX11_feed_20 (lv_at hl 6 rfl) ?_
    refine lv_bipush (v := (20 : Int32)) hx hb dX11_feed_22 (by decide) ?_
    refine lv_icmp_ge (tgt := 110) hx hb dX11_feed_24 (by decide) (fun c1 => ?_) (fun c1 => ?_)
    · have h := g_pos c1 h
      refine lv_aload_n hx hb dX11_feed_110 rfl (lv_at hl 0 rfl) ?_
      refine lv_dup hx hb dX11_feed_111 rfl ?_
      refine g_getI hc hG 54 flX11_118 rfl rfl dX11_feed_112 ?_
      refine lv_bipush (v := (20 : Int32)) hx hb dX11_feed_115 (by decide) ?_
      refine lv_iadd hx hb dX11_feed_117 ?_
      refine g_putI hc hG 54 fpX11_118 rfl rfl rfl rfl dX11_feed_118 (fun S2 H locs eS2 hG => ?_)
      have h := g_let eS2 h
      refine lv_aload_n hx hb dX11_feed_121 rfl (lv_at hl 0 rfl) ?_
      refine g_getI hc hG 54 flX11_118 rfl rfl dX11_feed_122 ?_
      exact g_iret hc hG dX11_feed_125 h
    · have h := g_neg c1 h
      refine lv_iload hx hb dX11_feed_27 (lv_at hl 6 rfl) ?_
      refine lv_iconst (v := (4 : Int32)) hx hb dX11_feed_29 (by decide) ?_
      refine lv_icmp_ge (tgt := 37) hx hb dX11_feed_30 (by decide) (fun c3 => ?_) (fun c3 => ?_)
      · have h := g_pos c3 h
        refine lv_iload hx hb dX11_feed_37 (lv_at hl 6 rfl) ?_
        refine lv_bipush (v := (8 : Int32)) hx hb dX11_feed_39 (by decide) ?_
        refine lv_icmp_ge (tgt := 48) hx hb dX11_feed_41 (by decide) (fun c4 => ?_) (fun c4 => ?_)
        · have h := g_pos c4 h
          refine lv_iload hx hb dX11_feed_48 (lv_at hl 6 rfl) ?_
          refine lv_bipush (v := (12 : Int32)) hx hb dX11_feed_50 (by decide) ?_
          refine lv_icmp_ge (tgt := 59) hx hb dX11_feed_52 (by decide) (fun c5 => ?_) (fun c5 => ?_)
          · have h := g_pos c5 h
            refine lv_iload hx hb dX11_feed_59 (lv_at hl 6 rfl) ?_
            refine lv_bipush (v := (16 : Int32)) hx hb dX11_feed_61 (by decide) ?_
            refine lv_icmp_ge (tgt := 71) hx hb dX11_feed_63 (by decide) (fun c6 => ?_) (fun c6 => ?_)
            · have h := g_pos c6 h
              refine lv_iload hx hb dX11_feed_71 (lv_at hl 5 rfl) ?_
              exact wX11_feed_73 hc ih S a5 a1 a2 a3 a4 a5 a6 _ _ _ (lv_sub hl [0, 1, 2, 3, 4, 5, 6] rfl) hG h
            · have h := g_neg c6 h
              refine lv_iload hx hb dX11_feed_66 (lv_at hl 4 rfl) ?_
              refine lv_goto (tgt := 73) hx hb dX11_feed_68 (by decide) ?_
              exact wX11_feed_73 hc ih S a4 a1 a2 a3 a4 a5 a6 _ _ _ (lv_sub hl [0, 1, 2, 3, 4, 5, 6] rfl) hG h
          · have h := g_neg c5 h
            refine lv_iload_n hx hb dX11_feed_55 rfl (lv_at hl 3 rfl) ?_
            refine lv_goto (tgt := 73) hx hb dX11_feed_56 (by decide) ?_
            exact wX11_feed_73 hc ih S a3 a1 a2 a3 a4 a5 a6 _ _ _ (lv_sub hl [0, 1, 2, 3, 4, 5, 6] rfl) hG h
        · have h := g_neg c4 h
          refine lv_iload_n hx hb dX11_feed_44 rfl (lv_at hl 2 rfl) ?_
          refine lv_goto (tgt := 73) hx hb dX11_feed_45 (by decide) ?_
          exact wX11_feed_73 hc ih S a2 a1 a2 a3 a4 a5 a6 _ _ _ (lv_sub hl [0, 1, 2, 3, 4, 5, 6] rfl) hG h
      · have h := g_neg c3 h
        refine lv_iload_n hx hb dX11_feed_33 rfl (lv_at hl 1 rfl) ?_
        refine lv_goto (tgt := 73) hx hb dX11_feed_34 (by decide) ?_
        exact wX11_feed_73 hc ih S a1 a1 a2 a3 a4 a5 a6 _ _ _ (lv_sub hl [0, 1, 2, 3, 4, 5, 6] rfl) hG h
def fX11_feed (S : GS) (a1 : Int32) (a2 : Int32) (a3 : Int32) (a4 : Int32) (a5 : Int32) : Option (Int32 × GS) := glet (gsi S 54 0 (0 : Int32)) fun S1 => (if (S1.1 54 2) ≤ (380 : Int32) then glet (0 : Int32) fun v3 => (fX11_feed_20 FU S1 a1 a2 a3 a4 a5 v3) else (some ((-1 : Int32), S1)))
set_option maxRecDepth 100000 in
set_option maxHeartbeats 4000000 in
theorem wX11_feed_0 {p : Program} {l : Launch} {e : Env} {s : State} {m : MethodId} {args : Array Value} {below : List Frame} {meth : Method} {c : Code} {E : GE} {res : (Int32 × GS)} (hc : GM E p s m args meth c RX11 cX11_feed 8 (some .int)) : ∀ (S : GS) (a1 : Int32) (a2 : Int32) (a3 : Int32) (a4 : Int32) (a5 : Int32) (H : Heap) (locs : List Loc) (ls : Array Slot), lv_has ls 8 [(0, gR E 54), (1, .int a1), (2, .int a2), (3, .int a3), (4, .int a4), (5, .int a5)] → GX E S H locs → fX11_feed S a1 a2 a3 a4 a5 = some res → W p l e rmX11_feed s m args below meth c H locs 0 0 (gZ E below args s (some (.int res.1)) res.2) (F0 m 0 ls []) := by
  obtain ⟨hx, hb, -, -, -, hown, hts, -, -⟩ := id hc
  intro S a1 a2 a3 a4 a5 H locs ls hl hG h
  unfold fX11_feed at h
  refine lv_aload_n hx hb dX11_feed_0 rfl (lv_at hl 0 rfl) ?_
  refine lv_iconst (v := (0 : Int32)) hx hb dX11_feed_1 (by decide) ?_
  refine g_putI hc hG 54 fpX11_115 rfl rfl rfl rfl dX11_feed_2 (fun S1 H locs eS1 hG => ?_)
  have h := g_let eS1 h
  refine lv_aload_n hx hb dX11_feed_5 rfl (lv_at hl 0 rfl) ?_
  refine g_getI hc hG 54 flX11_118 rfl rfl dX11_feed_6 ?_
  refine lv_sipush (v := (380 : Int32)) hx hb dX11_feed_9 (by decide) ?_
  refine lv_icmp_le (tgt := 17) hx hb dX11_feed_12 (by decide) (fun c2 => ?_) (fun c2 => ?_)
  · have h := g_pos c2 h
    refine lv_iconst (v := (0 : Int32)) hx hb dX11_feed_17 (by decide) ?_
    refine lv_topi (fun v3 ev3 => ?_)
    have h := g_let ev3 h
    refine lv_istore (lv' := [(6, .int v3), (0, gR E 54), (1, .int a1), (2, .int a2), (3, .int a3), (4, .int a4), (5, .int a5)]) hx hb dX11_feed_18 hl (by decide) rfl (fun ls hl => ?_)
    exact wX11_feed_20 hc FU S1 a1 a2 a3 a4 a5 v3 _ _ _ (lv_sub hl [1, 2, 3, 4, 5, 6, 0] rfl) hG h
  · have h := g_neg c2 h
    refine lv_iconst (v := (-1 : Int32)) hx hb dX11_feed_15 (by decide) ?_
    exact g_iret hc hG dX11_feed_16 h
theorem mX11_feed (l : Launch) (E : GE) {S : GS} {a1 : Int32} {a2 : Int32} {a3 : Int32} {a4 : Int32} {a5 : Int32} {res : (Int32 × GS)} (h : fX11_feed S a1 a2 a3 a4 a5 = some res) : gMet l E yX11_feed cX11_feed 8 (some .int) rmX11_feed [gR E 54, .int a1, .int a2, .int a3, .int a4, .int a5] S (some (.int res.1)) res.2 :=
  g_met (by decide) (Nat.le_of_ble_eq_true rfl) rfl fun p e s m below meth c H ls hc hG hl => wX11_feed_0 hc S a1 a2 a3 a4 a5 H [] ls hl hG h
abbrev rmX11_here : Room := { frames := 0, cells := 0, slots := 0, locals := 0 }
def fX11_here (S : GS) : Option Int32 := (if (S.1 54 13) ≤ (S.1 54 14) then (some (-1 : Int32)) else (if gib (S.1 54 14) 400 = true then (some (S.1 55 ((S.1 54 14)).toNatClampNeg)) else none))
set_option maxRecDepth 100000 in
set_option maxHeartbeats 4000000 in
theorem wX11_here_0 {p : Program} {l : Launch} {e : Env} {s : State} {m : MethodId} {args : Array Value} {below : List Frame} {meth : Method} {c : Code} {E : GE} {res : Int32} (hc : GM E p s m args meth c RX11 cX11_here 1 (some .int)) : ∀ (S : GS) (H : Heap) (locs : List Loc) (ls : Array Slot), lv_has ls 1 [(0, gR E 54)] → GX E S H locs → fX11_here S = some res → W p l e rmX11_here s m args below meth c H locs 0 0 (gZ E below args s (some (.int res)) S) (F0 m 0 ls []) := by
  obtain ⟨hx, hb, -, -, -, hown, hts, -, -⟩ := id hc
  intro S H locs ls hl hG h
  unfold fX11_here at h
  refine lv_aload_n hx hb dX11_here_0 rfl (lv_at hl 0 rfl) ?_
  refine g_getI hc hG 54 flX11_121 rfl rfl dX11_here_1 ?_
  refine lv_aload_n hx hb dX11_here_4 rfl (lv_at hl 0 rfl) ?_
  refine g_getI hc hG 54 flX11_124 rfl rfl dX11_here_5 ?_
  refine lv_icmp_ge (tgt := 23) hx hb dX11_here_8 (by decide) (fun c1 => ?_) (fun c1 => ?_)
  · have h := g_pos c1 h
    refine lv_iconst (v := (-1 : Int32)) hx hb dX11_here_23 (by decide) ?_
    exact g_iretp hc hG dX11_here_24 h
  · have h := g_neg c1 h
    refine lv_aload_n hx hb dX11_here_11 rfl (lv_at hl 0 rfl) ?_
    refine g_getR hc hG 54 55 flX11_7 rfl rfl rfl dX11_here_12 ?_
    refine lv_aload_n hx hb dX11_here_15 rfl (lv_at hl 0 rfl) ?_
    refine g_getI hc hG 54 flX11_121 rfl rfl dX11_here_16 ?_
    obtain ⟨hi2, h⟩ := g_if h
    refine g_iald hc hG 55 400 (((S.1 54 14)).toNatClampNeg) rfl rfl hi2 rfl dX11_here_19 ?_
    refine lv_goto (tgt := 24) hx hb dX11_here_20 (by decide) ?_
    exact g_iretp hc hG dX11_here_24 h
theorem mX11_here (l : Launch) (E : GE) {S : GS} {res : Int32} (h : fX11_here S = some res) : gMet l E yX11_here cX11_here 1 (some .int) rmX11_here [gR E 54] S (some (.int res)) S :=
  g_met (by decide) (Nat.le_of_ble_eq_true rfl) rfl fun p e s m below meth c H ls hc hG hl => wX11_here_0 hc S H [] ls hl hG h
abbrev rmX11_isSmall : Room := { frames := 0, cells := 0, slots := 0, locals := 0 }
def fX11_isSmall (S : GS) (a0 : Int32) : Option Int32 := (if a0 < (97 : Int32) then (some (0 : Int32)) else (if (122 : Int32) < a0 then (some (0 : Int32)) else (some (1 : Int32))))
set_option maxRecDepth 100000 in
set_option maxHeartbeats 4000000 in
theorem wX11_isSmall_0 {p : Program} {l : Launch} {e : Env} {s : State} {m : MethodId} {args : Array Value} {below : List Frame} {meth : Method} {c : Code} {E : GE} {res : Int32} (hc : GM E p s m args meth c RX11 cX11_isSmall 1 (some .boolean)) : ∀ (S : GS) (a0 : Int32) (H : Heap) (locs : List Loc) (ls : Array Slot), lv_has ls 1 [(0, .int a0)] → GX E S H locs → fX11_isSmall S a0 = some res → W p l e rmX11_isSmall s m args below meth c H locs 0 0 (gZ E below args s (some (.int res)) S) (F0 m 0 ls []) := by
  obtain ⟨hx, hb, -, -, -, hown, hts, -, -⟩ := id hc
  intro S a0 H locs ls hl hG h
  unfold fX11_isSmall at h
  refine lv_iload_n hx hb dX11_isSmall_0 rfl (lv_at hl 0 rfl) ?_
  refine lv_bipush (v := (97 : Int32)) hx hb dX11_isSmall_1 (by decide) ?_
  refine lv_icmp_lt (tgt := 16) hx hb dX11_isSmall_3 (by decide) (fun c1 => ?_) (fun c1 => ?_)
  · have h := g_pos c1 h
    refine lv_iconst (v := (0 : Int32)) hx hb dX11_isSmall_16 (by decide) ?_
    exact g_zretp hc hG (Or.inl rfl) dX11_isSmall_17 h
  · have h := g_neg c1 h
    refine lv_iload_n hx hb dX11_isSmall_6 rfl (lv_at hl 0 rfl) ?_
    refine lv_bipush (v := (122 : Int32)) hx hb dX11_isSmall_7 (by decide) ?_
    refine lv_icmp_gt (tgt := 16) hx hb dX11_isSmall_9 (by decide) (fun c2 => ?_) (fun c2 => ?_)
    · have h := g_pos c2 h
      refine lv_iconst (v := (0 : Int32)) hx hb dX11_isSmall_16 (by decide) ?_
      exact g_zretp hc hG (Or.inl rfl) dX11_isSmall_17 h
    · have h := g_neg c2 h
      refine lv_iconst (v := (1 : Int32)) hx hb dX11_isSmall_12 (by decide) ?_
      refine lv_goto (tgt := 17) hx hb dX11_isSmall_13 (by decide) ?_
      exact g_zretp hc hG (Or.inr rfl) dX11_isSmall_17 h
theorem mX11_isSmall (l : Launch) (E : GE) {S : GS} {a0 : Int32} {res : Int32} (h : fX11_isSmall S a0 = some res) : gMet l E yX11_isSmall cX11_isSmall 1 (some .boolean) rmX11_isSmall [.int a0] S (some (.int res)) S :=
  g_met (by decide) (Nat.le_of_ble_eq_true rfl) rfl fun p e s m below meth c H ls hc hG hl => wX11_isSmall_0 hc S a0 H [] ls hl hG h
abbrev rmX11_isDigit : Room := { frames := 0, cells := 0, slots := 0, locals := 0 }
def fX11_isDigit (S : GS) (a0 : Int32) : Option Int32 := (if a0 < (48 : Int32) then (some (0 : Int32)) else (if (57 : Int32) < a0 then (some (0 : Int32)) else (some (1 : Int32))))
set_option maxRecDepth 100000 in
set_option maxHeartbeats 4000000 in
theorem wX11_isDigit_0 {p : Program} {l : Launch} {e : Env} {s : State} {m : MethodId} {args : Array Value} {below : List Frame} {meth : Method} {c : Code} {E : GE} {res : Int32} (hc : GM E p s m args meth c RX11 cX11_isDigit 1 (some .boolean)) : ∀ (S : GS) (a0 : Int32) (H : Heap) (locs : List Loc) (ls : Array Slot), lv_has ls 1 [(0, .int a0)] → GX E S H locs → fX11_isDigit S a0 = some res → W p l e rmX11_isDigit s m args below meth c H locs 0 0 (gZ E below args s (some (.int res)) S) (F0 m 0 ls []) := by
  obtain ⟨hx, hb, -, -, -, hown, hts, -, -⟩ := id hc
  intro S a0 H locs ls hl hG h
  unfold fX11_isDigit at h
  refine lv_iload_n hx hb dX11_isDigit_0 rfl (lv_at hl 0 rfl) ?_
  refine lv_bipush (v := (48 : Int32)) hx hb dX11_isDigit_1 (by decide) ?_
  refine lv_icmp_lt (tgt := 16) hx hb dX11_isDigit_3 (by decide) (fun c1 => ?_) (fun c1 => ?_)
  · have h := g_pos c1 h
    refine lv_iconst (v := (0 : Int32)) hx hb dX11_isDigit_16 (by decide) ?_
    exact g_zretp hc hG (Or.inl rfl) dX11_isDigit_17 h
  · have h := g_neg c1 h
    refine lv_iload_n hx hb dX11_isDigit_6 rfl (lv_at hl 0 rfl) ?_
    refine lv_bipush (v := (57 : Int32)) hx hb dX11_isDigit_7 (by decide) ?_
    refine lv_icmp_gt (tgt := 16) hx hb dX11_isDigit_9 (by decide) (fun c2 => ?_) (fun c2 => ?_)
    · have h := g_pos c2 h
      refine lv_iconst (v := (0 : Int32)) hx hb dX11_isDigit_16 (by decide) ?_
      exact g_zretp hc hG (Or.inl rfl) dX11_isDigit_17 h
    · have h := g_neg c2 h
      refine lv_iconst (v := (1 : Int32)) hx hb dX11_isDigit_12 (by decide) ?_
      refine lv_goto (tgt := 17) hx hb dX11_isDigit_13 (by decide) ?_
      exact g_zretp hc hG (Or.inr rfl) dX11_isDigit_17 h
theorem mX11_isDigit (l : Launch) (E : GE) {S : GS} {a0 : Int32} {res : Int32} (h : fX11_isDigit S a0 = some res) : gMet l E yX11_isDigit cX11_isDigit 1 (some .boolean) rmX11_isDigit [.int a0] S (some (.int res)) S :=
  g_met (by decide) (Nat.le_of_ble_eq_true rfl) rfl fun p e s m below meth c H ls hc hG hl => wX11_isDigit_0 hc S a0 H [] ls hl hG h
abbrev rmX11_word : Room := { frames := 4, cells := 0, slots := 0, locals := 85 }
def fX11_word_97 (k4 : GS → Int32 → Int32 → Option Int32) : Nat → GS → Int32 → Int32 → Option Int32
  | 0, _, _, _ => none
  | n + 1, S, a1, a2 => gbv (fJ0_charAt_5068e S 17 a2) fun r2 => (if r2 = (32 : Int32) then glet (a2 + (1 : Int32)) fun v4 => glet (a1 + (1 : Int32)) fun v5 => (k4 S v5 v4) else glet (a2 + (1 : Int32)) fun v6 => (fX11_word_97 k4 n S a1 v6))
set_option maxRecDepth 100000 in
set_option maxHeartbeats 4000000 in
theorem wX11_word_97 {p : Program} {l : Launch} {e : Env} {s : State} {m : MethodId} {args : Array Value} {below : List Frame} {meth : Method} {c : Code} {E : GE} {res : Int32} {k4 : GS → Int32 → Int32 → Option Int32} (hc : GM E p s m args meth c RX11 cX11_word 4 (some .int)) (hk4 : ∀ (S : GS) (a1 : Int32) (a2 : Int32) (H : Heap) (locs : List Loc) (ls : Array Slot), lv_has ls 4 [(0, gR E 54), (1, .int a1), (2, .int a2)] → GX E S H locs → k4 S a1 a2 = some res → W p l e rmX11_word s m args below meth c H locs 0 0 (gZ E below args s (some (.int res)) S) (F0 m 4 ls [])) : ∀ (n : Nat), ∀ (S : GS) (a1 : Int32) (a2 : Int32) (H : Heap) (locs : List Loc) (ls : Array Slot), lv_has ls 4 [(0, gR E 54), (1, .int a1), (2, .int a2)] → GX E S H locs → fX11_word_97 k4 n S a1 a2 = some res → W p l e rmX11_word s m args below meth c H locs 0 0 (gZ E below args s (some (.int res)) S) (F0 m 97 ls []) := by
  obtain ⟨hx, hb, -, -, -, hown, hts, -, -⟩ := id hc
  intro n
  induction n with
  | zero => intro S a1 a2 H locs ls hl hG h; cases h
  | succ n ih =>
    intro S a1 a2 H locs ls hl hG h
    rw [fX11_word_97] at h
    refine g_ldcs hc 17 (by decide) rfl rfl dX11_word_97 ?_
    refine lv_iload_n hx hb dX11_word_99 rfl (lv_at hl 2 rfl) ?_
    obtain ⟨r2, hm1, h⟩ := g_bv h
    refine g_callXi (As := [.int a2]) hc hG 17 (fJ0_charAt_5068e_lt hm1) (mJ0_charAt_5068e l E hm1) mlX11_157 mcJ0_charAt_5068e miJ0_charAt_5068e rfl rfl hl.1 rfl rfl ⟨by decide, by decide⟩ (Nat.le_of_ble_eq_true rfl) ⟨by decide, by decide⟩ dX11_word_100 rfl (fun H locs hG => ?_)
    refine lv_bipush (v := (32 : Int32)) hx hb dX11_word_103 (by decide) ?_
    refine lv_icmp_eq (tgt := 114) hx hb dX11_word_105 (by decide) (fun c3 => ?_) (fun c3 => ?_)
    · have h := g_pos c3 h
      obtain ⟨v4, ev4⟩ : ∃ y : Int32, y = (a2 + (1 : Int32)) := ⟨_, rfl⟩
      have h := g_let ev4 h
      refine lv_iinc (v := v4) (lv' := [(2, .int v4), (0, gR E 54), (1, .int a1)]) hx hb dX11_word_114 hl (k := 2) rfl (by rw [ev4]; rfl) (by decide) rfl (fun ls hl => ?_)
      obtain ⟨v5, ev5⟩ : ∃ y : Int32, y = (a1 + (1 : Int32)) := ⟨_, rfl⟩
      have h := g_let ev5 h
      refine lv_iinc (v := v5) (lv' := [(1, .int v5), (2, .int v4), (0, gR E 54)]) hx hb dX11_word_117 hl (k := 2) rfl (by rw [ev5]; rfl) (by decide) rfl (fun ls hl => ?_)
      refine lv_goto (tgt := 4) hx hb dX11_word_120 (by decide) ?_
      exact hk4 S v5 v4 _ _ _ (lv_sub hl [2, 0, 1] rfl) hG h
    · have h := g_neg c3 h
      obtain ⟨v6, ev6⟩ : ∃ y : Int32, y = (a2 + (1 : Int32)) := ⟨_, rfl⟩
      have h := g_let ev6 h
      refine lv_iinc (v := v6) (lv' := [(2, .int v6), (0, gR E 54), (1, .int a1)]) hx hb dX11_word_108 hl (k := 2) rfl (by rw [ev6]; rfl) (by decide) rfl (fun ls hl => ?_)
      refine lv_goto (tgt := 97) hx hb dX11_word_111 (by decide) ?_
      exact ih S a1 v6 _ _ _ (lv_sub hl [1, 2, 0] rfl) hG h
def fX11_word_69 (k4 : GS → Int32 → Int32 → Option Int32) (S : GS) (a1 : Int32) (a2 : Int32) (a3 : Int32) : Option Int32 := gbv (fJ0_charAt_5068e S 17 (a2 + a3)) fun r2 => (if r2 = (32 : Int32) then (if ((S.1 54 15) + a3) = (S.1 54 14) then (some a1) else (fX11_word_97 k4 FU S a1 a2)) else (fX11_word_97 k4 FU S a1 a2))
set_option maxRecDepth 100000 in
set_option maxHeartbeats 4000000 in
theorem wX11_word_69 {p : Program} {l : Launch} {e : Env} {s : State} {m : MethodId} {args : Array Value} {below : List Frame} {meth : Method} {c : Code} {E : GE} {res : Int32} {k4 : GS → Int32 → Int32 → Option Int32} (hc : GM E p s m args meth c RX11 cX11_word 4 (some .int)) (hk4 : ∀ (S : GS) (a1 : Int32) (a2 : Int32) (H : Heap) (locs : List Loc) (ls : Array Slot), lv_has ls 4 [(0, gR E 54), (1, .int a1), (2, .int a2)] → GX E S H locs → k4 S a1 a2 = some res → W p l e rmX11_word s m args below meth c H locs 0 0 (gZ E below args s (some (.int res)) S) (F0 m 4 ls [])) : ∀ (S : GS) (a1 : Int32) (a2 : Int32) (a3 : Int32) (H : Heap) (locs : List Loc) (ls : Array Slot), lv_has ls 4 [(0, gR E 54), (1, .int a1), (2, .int a2), (3, .int a3)] → GX E S H locs → fX11_word_69 k4 S a1 a2 a3 = some res → W p l e rmX11_word s m args below meth c H locs 0 0 (gZ E below args s (some (.int res)) S) (F0 m 69 ls []) := by
  obtain ⟨hx, hb, -, -, -, hown, hts, -, -⟩ := id hc
  intro S a1 a2 a3 H locs ls hl hG h
  unfold fX11_word_69 at h
  refine g_ldcs hc 17 (by decide) rfl rfl dX11_word_69 ?_
  refine lv_iload_n hx hb dX11_word_71 rfl (lv_at hl 2 rfl) ?_
  refine lv_iload_n hx hb dX11_word_72 rfl (lv_at hl 3 rfl) ?_
  refine lv_iadd hx hb dX11_word_73 ?_
  obtain ⟨r2, hm1, h⟩ := g_bv h
  refine g_callXi (As := [.int (a2 + a3)]) hc hG 17 (fJ0_charAt_5068e_lt hm1) (mJ0_charAt_5068e l E hm1) mlX11_157 mcJ0_charAt_5068e miJ0_charAt_5068e rfl rfl hl.1 rfl rfl ⟨by decide, by decide⟩ (Nat.le_of_ble_eq_true rfl) ⟨by decide, by decide⟩ dX11_word_74 rfl (fun H locs hG => ?_)
  refine lv_bipush (v := (32 : Int32)) hx hb dX11_word_77 (by decide) ?_
  refine lv_icmp_ne (tgt := 97) hx hb dX11_word_79 (by decide) (fun c3 => ?_) (fun c3 => ?_)
  · have h := g_neg c3 h
    exact wX11_word_97 hc hk4 FU S a1 a2 _ _ _ (lv_sub hl [0, 1, 2] rfl) hG h
  · have h := g_pos c3 h
    refine lv_aload_n hx hb dX11_word_82 rfl (lv_at hl 0 rfl) ?_
    refine g_getI hc hG 54 flX11_131 rfl rfl dX11_word_83 ?_
    refine lv_iload_n hx hb dX11_word_86 rfl (lv_at hl 3 rfl) ?_
    refine lv_iadd hx hb dX11_word_87 ?_
    refine lv_aload_n hx hb dX11_word_88 rfl (lv_at hl 0 rfl) ?_
    refine g_getI hc hG 54 flX11_121 rfl rfl dX11_word_89 ?_
    refine lv_icmp_ne (tgt := 97) hx hb dX11_word_92 (by decide) (fun c4 => ?_) (fun c4 => ?_)
    · have h := g_neg c4 h
      exact wX11_word_97 hc hk4 FU S a1 a2 _ _ _ (lv_sub hl [0, 1, 2] rfl) hG h
    · have h := g_pos c4 h
      refine lv_iload_n hx hb dX11_word_95 rfl (lv_at hl 1 rfl) ?_
      exact g_iretp hc hG dX11_word_96 h
def fX11_word_15 (k4 : GS → Int32 → Int32 → Option Int32) : Nat → GS → Int32 → Int32 → Int32 → Option Int32
  | 0, _, _, _, _ => none
  | n + 1, S, a1, a2, a3 => gbv (fJ0_charAt_5068e S 17 (a2 + a3)) fun r2 => (if r2 = (32 : Int32) then (fX11_word_69 k4 S a1 a2 a3) else (if (S.1 54 14) ≤ ((S.1 54 15) + a3) then (fX11_word_69 k4 S a1 a2 a3) else (if gib ((S.1 54 15) + a3) 400 = true then gbv (fJ0_charAt_5068e S 17 (a2 + a3)) fun r7 => (if (S.1 55 (((S.1 54 15) + a3)).toNatClampNeg) = r7 then glet (a3 + (1 : Int32)) fun v9 => (fX11_word_15 k4 n S a1 a2 v9) else (fX11_word_69 k4 S a1 a2 a3)) else none)))
set_option maxRecDepth 100000 in
set_option maxHeartbeats 4000000 in
theorem wX11_word_15 {p : Program} {l : Launch} {e : Env} {s : State} {m : MethodId} {args : Array Value} {below : List Frame} {meth : Method} {c : Code} {E : GE} {res : Int32} {k4 : GS → Int32 → Int32 → Option Int32} (hc : GM E p s m args meth c RX11 cX11_word 4 (some .int)) (hk4 : ∀ (S : GS) (a1 : Int32) (a2 : Int32) (H : Heap) (locs : List Loc) (ls : Array Slot), lv_has ls 4 [(0, gR E 54), (1, .int a1), (2, .int a2)] → GX E S H locs → k4 S a1 a2 = some res → W p l e rmX11_word s m args below meth c H locs 0 0 (gZ E below args s (some (.int res)) S) (F0 m 4 ls [])) : ∀ (n : Nat), ∀ (S : GS) (a1 : Int32) (a2 : Int32) (a3 : Int32) (H : Heap) (locs : List Loc) (ls : Array Slot), lv_has ls 4 [(0, gR E 54), (1, .int a1), (2, .int a2), (3, .int a3)] → GX E S H locs → fX11_word_15 k4 n S a1 a2 a3 = some res → W p l e rmX11_word s m args below meth c H locs 0 0 (gZ E below args s (some (.int res)) S) (F0 m 15 ls []) := by
  obtain ⟨hx, hb, -, -, -, hown, hts, -, -⟩ := id hc
  intro n
  induction n with
  | zero => intro S a1 a2 a3 H locs ls hl hG h; cases h
  | succ n ih =>
    intro S a1 a2 a3 H locs ls hl hG h
    rw [fX11_word_15] at h
    refine g_ldcs hc 17 (by decide) rfl rfl dX11_word_15 ?_
    refine lv_iload_n hx hb dX11_word_17 rfl (lv_at hl 2 rfl) ?_
    refine lv_iload_n hx hb dX11_word_18 rfl (lv_at hl 3 rfl) ?_
    refine lv_iadd hx hb dX11_word_19 ?_
    obtain ⟨r2, hm1, h⟩ := g_bv h
    refine g_callXi (As := [.int (a2 + a3)]) hc hG 17 (fJ0_charAt_5068e_lt hm1) (mJ0_charAt_5068e l E hm1) mlX11_157 mcJ0_charAt_5068e miJ0_charAt_5068e rfl rfl hl.1 rfl rfl ⟨by decide, by decide⟩ (Nat.le_of_ble_eq_true rfl) ⟨by decide, by decide⟩ dX11_word_20 rfl (fun H locs hG => ?_)
    refine lv_bipush (v := (32 : Int32)) hx hb dX11_word_23 (by decide) ?_
    refine lv_icmp_eq (tgt := 69) hx hb dX11_word_25 (by decide) (fun c3 => ?_) (fun c3 => ?_)
    · have h := g_pos c3 h
      exact wX11_word_69 hc hk4 S a1 a2 a3 _ _ _ (lv_sub hl [0, 1, 2, 3] rfl) hG h
    · have h := g_neg c3 h
      refine lv_aload_n hx hb dX11_word_28 rfl (lv_at hl 0 rfl) ?_
      refine g_getI hc hG 54 flX11_131 rfl rfl dX11_word_29 ?_
      refine lv_iload_n hx hb dX11_word_32 rfl (lv_at hl 3 rfl) ?_
      refine lv_iadd hx hb dX11_word_33 ?_
      refine lv_aload_n hx hb dX11_word_34 rfl (lv_at hl 0 rfl) ?_
      refine g_getI hc hG 54 flX11_121 rfl rfl dX11_word_35 ?_
      refine lv_icmp_ge (tgt := 69) hx hb dX11_word_38 (by decide) (fun c4 => ?_) (fun c4 => ?_)
      · have h := g_pos c4 h
        exact wX11_word_69 hc hk4 S a1 a2 a3 _ _ _ (lv_sub hl [0, 1, 2, 3] rfl) hG h
      · have h := g_neg c4 h
        refine lv_aload_n hx hb dX11_word_41 rfl (lv_at hl 0 rfl) ?_
        refine g_getR hc hG 54 55 flX11_7 rfl rfl rfl dX11_word_42 ?_
        refine lv_aload_n hx hb dX11_word_45 rfl (lv_at hl 0 rfl) ?_
        refine g_getI hc hG 54 flX11_131 rfl rfl dX11_word_46 ?_
        refine lv_iload_n hx hb dX11_word_49 rfl (lv_at hl 3 rfl) ?_
        refine lv_iadd hx hb dX11_word_50 ?_
        obtain ⟨hi5, h⟩ := g_if h
        refine g_iald hc hG 55 400 ((((S.1 54 15) + a3)).toNatClampNeg) rfl rfl hi5 rfl dX11_word_51 ?_
        refine g_ldcs hc 17 (by decide) rfl rfl dX11_word_52 ?_
        refine lv_iload_n hx hb dX11_word_54 rfl (lv_at hl 2 rfl) ?_
        refine lv_iload_n hx hb dX11_word_55 rfl (lv_at hl 3 rfl) ?_
        refine lv_iadd hx hb dX11_word_56 ?_
        obtain ⟨r7, hm6, h⟩ := g_bv h
        refine g_callXi (As := [.int (a2 + a3)]) hc hG 17 (fJ0_charAt_5068e_lt hm6) (mJ0_charAt_5068e l E hm6) mlX11_157 mcJ0_charAt_5068e miJ0_charAt_5068e rfl rfl hl.1 rfl rfl ⟨by decide, by decide⟩ (Nat.le_of_ble_eq_true rfl) ⟨by decide, by decide⟩ dX11_word_57 rfl (fun H locs hG => ?_)
        refine lv_icmp_ne (tgt := 69) hx hb dX11_word_60 (by decide) (fun c8 => ?_) (fun c8 => ?_)
        · have h := g_neg c8 h
          exact wX11_word_69 hc hk4 S a1 a2 a3 _ _ _ (lv_sub hl [0, 1, 2, 3] rfl) hG h
        · have h := g_pos c8 h
          obtain ⟨v9, ev9⟩ : ∃ y : Int32, y = (a3 + (1 : Int32)) := ⟨_, rfl⟩
          have h := g_let ev9 h
          refine lv_iinc (v := v9) (lv' := [(3, .int v9), (0, gR E 54), (1, .int a1), (2, .int a2)]) hx hb dX11_word_63 hl (k := 3) rfl (by rw [ev9]; rfl) (by decide) rfl (fun ls hl => ?_)
          refine lv_goto (tgt := 15) hx hb dX11_word_66 (by decide) ?_
          exact ih S a1 a2 v9 _ _ _ (lv_sub hl [1, 2, 3, 0] rfl) hG h
def fX11_word_4 : Nat → GS → Int32 → Int32 → Option Int32
  | 0, _, _, _ => none
  | n + 1, S, a1, a2 => gbv (fJ0_length_8abf5 S 17) fun r2 => (if r2 ≤ a2 then (some (-1 : Int32)) else glet (0 : Int32) fun v4 => (fX11_word_15 (fX11_word_4 n) FU S a1 a2 v4))
set_option maxRecDepth 100000 in
set_option maxHeartbeats 4000000 in
theorem wX11_word_4 {p : Program} {l : Launch} {e : Env} {s : State} {m : MethodId} {args : Array Value} {below : List Frame} {meth : Method} {c : Code} {E : GE} {res : Int32} (hc : GM E p s m args meth c RX11 cX11_word 4 (some .int)) : ∀ (n : Nat), ∀ (S : GS) (a1 : Int32) (a2 : Int32) (H : Heap) (locs : List Loc) (ls : Array Slot), lv_has ls 4 [(0, gR E 54), (1, .int a1), (2, .int a2)] → GX E S H locs → fX11_word_4 n S a1 a2 = some res → W p l e rmX11_word s m args below meth c H locs 0 0 (gZ E below args s (some (.int res)) S) (F0 m 4 ls []) := by
  obtain ⟨hx, hb, -, -, -, hown, hts, -, -⟩ := id hc
  intro n
  induction n with
  | zero => intro S a1 a2 H locs ls hl hG h; cases h
  | succ n ih =>
    intro S a1 a2 H locs ls hl hG h
    rw [fX11_word_4] at h
    refine lv_iload_n hx hb dX11_word_4 rfl (lv_at hl 2 rfl) ?_
    refine g_ldcs hc 17 (by decide) rfl rfl dX11_word_5 ?_
    obtain ⟨r2, hm1, h⟩ := g_bv h
    refine g_callXi (As := []) hc hG 17 (fJ0_length_8abf5_lt hm1) (mJ0_length_8abf5 l E hm1) mlX11_152 mcJ0_length_8abf5 miJ0_length_8abf5 rfl rfl hl.1 rfl rfl ⟨by decide, by decide⟩ (Nat.le_of_ble_eq_true rfl) ⟨by decide, by decide⟩ dX11_word_7 rfl (fun H locs hG => ?_)
    refine lv_icmp_ge (tgt := 123) hx hb dX11_word_10 (by decide) (fun c3 => ?_) (fun c3 => ?_)
    · have h := g_pos c3 h
      refine lv_iconst (v := (-1 : Int32)) hx hb dX11_word_123 (by decide) ?_
      exact g_iretp hc hG dX11_word_124 h
    · have h := g_neg c3 h
      refine lv_iconst (v := (0 : Int32)) hx hb dX11_word_13 (by decide) ?_
      refine lv_topi (fun v4 ev4 => ?_)
      have h := g_let ev4 h
      refine lv_istore_n (lv' := [(3, .int v4), (0, gR E 54), (1, .int a1), (2, .int a2)]) hx hb dX11_word_14 rfl hl (by decide) rfl (fun ls hl => ?_)
      exact wX11_word_15 hc ih FU S a1 a2 v4 _ _ _ (lv_sub hl [1, 2, 3, 0] rfl) hG h
def fX11_word (S : GS) : Option Int32 := glet (0 : Int32) fun v1 => glet (0 : Int32) fun v2 => (fX11_word_4 FU S v1 v2)
set_option maxRecDepth 100000 in
set_option maxHeartbeats 4000000 in
theorem wX11_word_0 {p : Program} {l : Launch} {e : Env} {s : State} {m : MethodId} {args : Array Value} {below : List Frame} {meth : Method} {c : Code} {E : GE} {res : Int32} (hc : GM E p s m args meth c RX11 cX11_word 4 (some .int)) : ∀ (S : GS) (H : Heap) (locs : List Loc) (ls : Array Slot), lv_has ls 4 [(0, gR E 54)] → GX E S H locs → fX11_word S = some res → W p l e rmX11_word s m args below meth c H locs 0 0 (gZ E below args s (some (.int res)) S) (F0 m 0 ls []) := by
  obtain ⟨hx, hb, -, -, -, hown, hts, -, -⟩ := id hc
  intro S H locs ls hl hG h
  unfold fX11_word at h
  refine lv_iconst (v := (0 : Int32)) hx hb dX11_word_0 (by decide) ?_
  refine lv_topi (fun v1 ev1 => ?_)
  have h := g_let ev1 h
  refine lv_istore_n (lv' := [(1, .int v1), (0, gR E 54)]) hx hb dX11_word_1 rfl hl (by decide) rfl (fun ls hl => ?_)
  refine lv_iconst (v := (0 : Int32)) hx hb dX11_word_2 (by decide) ?_
  refine lv_topi (fun v2 ev2 => ?_)
  have h := g_let ev2 h
  refine lv_istore_n (lv' := [(2, .int v2), (1, .int v1), (0, gR E 54)]) hx hb dX11_word_3 rfl hl (by decide) rfl (fun ls hl => ?_)
  exact wX11_word_4 hc FU S v1 v2 _ _ _ (lv_sub hl [2, 1, 0] rfl) hG h
theorem mX11_word (l : Launch) (E : GE) {S : GS} {res : Int32} (h : fX11_word S = some res) : gMet l E yX11_word cX11_word 4 (some .int) rmX11_word [gR E 54] S (some (.int res)) S :=
  g_met (by decide) (Nat.le_of_ble_eq_true rfl) rfl fun p e s m below meth c H ls hc hG hl => wX11_word_0 hc S H [] ls hl hG h
abbrev rmX11_next : Room := { frames := 5, cells := 0, slots := 0, locals := 108 }
def fX11_next_18 (k0 : GS → Option (Unit × GS)) (S : GS) : Option (Unit × GS) := glet (gsi S 54 14 ((S.1 54 14) + (1 : Int32))) fun S1 => (k0 S1)
set_option maxRecDepth 100000 in
set_option maxHeartbeats 4000000 in
theorem wX11_next_18 {p : Program} {l : Launch} {e : Env} {s : State} {m : MethodId} {args : Array Value} {below : List Frame} {meth : Method} {c : Code} {E : GE} {res : (Unit × GS)} {k0 : GS → Option (Unit × GS)} (hc : GM E p s m args meth c RX11 cX11_next 2 none) (hk0 : ∀ (S : GS) (H : Heap) (locs : List Loc) (ls : Array Slot), lv_has ls 2 [(0, gR E 54)] → GX E S H locs → k0 S = some res → W p l e rmX11_next s m args below meth c H locs 0 0 (gZ E below args s none res.2) (F0 m 0 ls [])) : ∀ (S : GS) (H : Heap) (locs : List Loc) (ls : Array Slot), lv_has ls 2 [(0, gR E 54)] → GX E S H locs → fX11_next_18 k0 S = some res → W p l e rmX11_next s m args below meth c H locs 0 0 (gZ E below args s none res.2) (F0 m 18 ls []) := by
  obtain ⟨hx, hb, -, -, -, hown, hts, -, -⟩ := id hc
  intro S H locs ls hl hG h
  unfold fX11_next_18 at h
  refine lv_aload_n hx hb dX11_next_18 rfl (lv_at hl 0 rfl) ?_
  refine lv_dup hx hb dX11_next_19 rfl ?_
  refine g_getI hc hG 54 flX11_121 rfl rfl dX11_next_20 ?_
  refine lv_iconst (v := (1 : Int32)) hx hb dX11_next_23 (by decide) ?_
  refine lv_iadd hx hb dX11_next_24 ?_
  refine g_putI hc hG 54 fpX11_121 rfl rfl rfl rfl dX11_next_25 (fun S1 H locs eS1 hG => ?_)
  have h := g_let eS1 h
  refine lv_goto (tgt := 0) hx hb dX11_next_28 (by decide) ?_
  exact hk0 S1 _ _ _ (lv_sub hl [0] rfl) hG h
def fX11_next_62 : Nat → GS → Option (Unit × GS)
  | 0, _ => none
  | n + 1, S => gbv (fX11_here S) fun r2 => gbv (fX11_isSmall S r2) fun r4 => (if r4 = 0 then gbv (fX11_word S) fun r7 => glet (gsi S 54 17 r7) fun S8 => (if (S8.1 54 17) = (-1 : Int32) then glet (gsi S8 54 16 (4 : Int32)) fun S11 => (some ((), S11)) else glet (gsi S8 54 16 (0 : Int32)) fun S10 => (some ((), S10))) else glet (gsi S 54 14 ((S.1 54 14) + (1 : Int32))) fun S12 => (fX11_next_62 n S12))
set_option maxRecDepth 100000 in
set_option maxHeartbeats 4000000 in
theorem wX11_next_62 {p : Program} {l : Launch} {e : Env} {s : State} {m : MethodId} {args : Array Value} {below : List Frame} {meth : Method} {c : Code} {E : GE} {res : (Unit × GS)} (hc : GM E p s m args meth c RX11 cX11_next 2 none) : ∀ (n : Nat), ∀ (S : GS) (H : Heap) (locs : List Loc) (ls : Array Slot), lv_has ls 2 [(0, gR E 54)] → GX E S H locs → fX11_next_62 n S = some res → W p l e rmX11_next s m args below meth c H locs 0 0 (gZ E below args s none res.2) (F0 m 62 ls []) := by
  obtain ⟨hx, hb, -, -, -, hown, hts, -, -⟩ := id hc
  intro n
  induction n with
  | zero => intro S H locs ls hl hG h; cases h
  | succ n ih =>
    intro S H locs ls hl hG h
    rw [fX11_next_62] at h
    refine lv_aload_n hx hb dX11_next_62 rfl (lv_at hl 0 rfl) ?_
    obtain ⟨r2, hm1, h⟩ := g_bv h
    refine g_callVi (As := []) hc hG (mX11_here l E hm1) mlX11_127 mcX11_here miX11_here rfl rfl rfl rfl hl.1 rfl rfl ⟨by decide, by decide⟩ (Nat.le_of_ble_eq_true rfl) ⟨by decide, by decide⟩ dX11_next_63 rfl (fun H locs hG => ?_)
    obtain ⟨r4, hm3, h⟩ := g_bv h
    refine g_callSi (As := [.int r2]) hc hG (mX11_isSmall l E hm3) mlX11_137 mcX11_isSmall msX11_isSmall rfl hl.1 rfl rfl ⟨by decide, by decide⟩ (Nat.le_of_ble_eq_true rfl) ⟨by decide, by decide⟩ dX11_next_66 rfl (fun H locs hG => ?_)
    refine lv_if_eq (tgt := 85) hx hb dX11_next_69 (by decide) (fun c5 => ?_) (fun c5 => ?_)
    · have h := g_pos c5 h
      refine lv_aload_n hx hb dX11_next_85 rfl (lv_at hl 0 rfl) ?_
      refine lv_aload_n hx hb dX11_next_86 rfl (lv_at hl 0 rfl) ?_
      obtain ⟨r7, hm6, h⟩ := g_bv h
      refine g_callVi (As := []) hc hG (mX11_word l E hm6) mlX11_141 mcX11_word miX11_word rfl rfl rfl rfl hl.1 rfl rfl ⟨by decide, by decide⟩ (Nat.le_of_ble_eq_true rfl) ⟨by decide, by decide⟩ dX11_next_87 rfl (fun H locs hG => ?_)
      refine g_putI hc hG 54 fpX11_144 rfl rfl rfl rfl dX11_next_90 (fun S8 H locs eS8 hG => ?_)
      have h := g_let eS8 h
      refine lv_aload_n hx hb dX11_next_93 rfl (lv_at hl 0 rfl) ?_
      refine lv_aload_n hx hb dX11_next_94 rfl (lv_at hl 0 rfl) ?_
      refine g_getI hc hG 54 flX11_144 rfl rfl dX11_next_95 ?_
      refine lv_iconst (v := (-1 : Int32)) hx hb dX11_next_98 (by decide) ?_
      refine lv_icmp_ne (tgt := 106) hx hb dX11_next_99 (by decide) (fun c9 => ?_) (fun c9 => ?_)
      · have h := g_neg c9 h
        refine lv_iconst (v := (0 : Int32)) hx hb dX11_next_106 (by decide) ?_
        refine g_putI hc hG 54 fpX11_134 rfl rfl rfl rfl dX11_next_107 (fun S10 H locs eS10 hG => ?_)
        have h := g_let eS10 h
        exact g_vret hc hG dX11_next_110 h
      · have h := g_pos c9 h
        refine lv_iconst (v := (4 : Int32)) hx hb dX11_next_102 (by decide) ?_
        refine lv_goto (tgt := 107) hx hb dX11_next_103 (by decide) ?_
        refine g_putI hc hG 54 fpX11_134 rfl rfl rfl rfl dX11_next_107 (fun S11 H locs eS11 hG => ?_)
        have h := g_let eS11 h
        exact g_vret hc hG dX11_next_110 h
    · have h := g_neg c5 h
      refine lv_aload_n hx hb dX11_next_72 rfl (lv_at hl 0 rfl) ?_
      refine lv_dup hx hb dX11_next_73 rfl ?_
      refine g_getI hc hG 54 flX11_121 rfl rfl dX11_next_74 ?_
      refine lv_iconst (v := (1 : Int32)) hx hb dX11_next_77 (by decide) ?_
      refine lv_iadd hx hb dX11_next_78 ?_
      refine g_putI hc hG 54 fpX11_121 rfl rfl rfl rfl dX11_next_79 (fun S12 H locs eS12 hG => ?_)
      have h := g_let eS12 h
      refine lv_goto (tgt := 62) hx hb dX11_next_82 (by decide) ?_
      exact ih S12 _ _ _ (lv_sub hl [0] rfl) hG h
def fX11_next_171 (k128 : GS → Option (Unit × GS)) (S : GS) (t1 : Int32) : Option (Unit × GS) := glet (gsi S 54 17 t1) fun S1 => glet (gsi S1 54 14 ((S1.1 54 14) + (1 : Int32))) fun S2 => (k128 S2)
set_option maxRecDepth 100000 in
set_option maxHeartbeats 4000000 in
theorem wX11_next_171 {p : Program} {l : Launch} {e : Env} {s : State} {m : MethodId} {args : Array Value} {below : List Frame} {meth : Method} {c : Code} {E : GE} {res : (Unit × GS)} {k128 : GS → Option (Unit × GS)} (hc : GM E p s m args meth c RX11 cX11_next 2 none) (hk128 : ∀ (S : GS) (H : Heap) (locs : List Loc) (ls : Array Slot), lv_has ls 2 [(0, gR E 54)] → GX E S H locs → k128 S = some res → W p l e rmX11_next s m args below meth c H locs 0 0 (gZ E below args s none res.2) (F0 m 128 ls [])) : ∀ (S : GS) (t1 : Int32) (H : Heap) (locs : List Loc) (ls : Array Slot), lv_has ls 2 [(0, gR E 54)] → GX E S H locs → fX11_next_171 k128 S t1 = some res → W p l e rmX11_next s m args below meth c H locs 0 0 (gZ E below args s none res.2) (F0 m 171 ls [.int t1, gR E 54]) := by
  obtain ⟨hx, hb, -, -, -, hown, hts, -, -⟩ := id hc
  intro S t1 H locs ls hl hG h
  unfold fX11_next_171 at h
  refine g_putI hc hG 54 fpX11_144 rfl rfl rfl rfl dX11_next_171 (fun S1 H locs eS1 hG => ?_)
  have h := g_let eS1 h
  refine lv_aload_n hx hb dX11_next_174 rfl (lv_at hl 0 rfl) ?_
  refine lv_dup hx hb dX11_next_175 rfl ?_
  refine g_getI hc hG 54 flX11_121 rfl rfl dX11_next_176 ?_
  refine lv_iconst (v := (1 : Int32)) hx hb dX11_next_179 (by decide) ?_
  refine lv_iadd hx hb dX11_next_180 ?_
  refine g_putI hc hG 54 fpX11_121 rfl rfl rfl rfl dX11_next_181 (fun S2 H locs eS2 hG => ?_)
  have h := g_let eS2 h
  refine lv_goto (tgt := 128) hx hb dX11_next_184 (by decide) ?_
  exact hk128 S2 _ _ _ (lv_sub hl [0] rfl) hG h
def fX11_next_128 : Nat → GS → Option (Unit × GS)
  | 0, _ => none
  | n + 1, S => gbv (fX11_here S) fun r2 => gbv (fX11_isDigit S r2) fun r4 => (if r4 = 0 then (some ((), S)) else (if (S.1 54 17) ≤ (9999 : Int32) then gbv (fX11_here S) fun r8 => (fX11_next_171 (fX11_next_128 n) S ((((10 : Int32) * (S.1 54 17)) + r8) - (48 : Int32))) else (fX11_next_171 (fX11_next_128 n) S (S.1 54 17))))
set_option maxRecDepth 100000 in
set_option maxHeartbeats 4000000 in
theorem wX11_next_128 {p : Program} {l : Launch} {e : Env} {s : State} {m : MethodId} {args : Array Value} {below : List Frame} {meth : Method} {c : Code} {E : GE} {res : (Unit × GS)} (hc : GM E p s m args meth c RX11 cX11_next 2 none) : ∀ (n : Nat), ∀ (S : GS) (H : Heap) (locs : List Loc) (ls : Array Slot), lv_has ls 2 [(0, gR E 54)] → GX E S H locs → fX11_next_128 n S = some res → W p l e rmX11_next s m args below meth c H locs 0 0 (gZ E below args s none res.2) (F0 m 128 ls []) := by
  obtain ⟨hx, hb, -, -, -, hown, hts, -, -⟩ := id hc
  intro n
  induction n with
  | zero => intro S H locs ls hl hG h; cases h
  | succ n ih =>
    intro S H locs ls hl hG h
    rw [fX11_next_128] at h
    refine lv_aload_n hx hb dX11_next_128 rfl (lv_at hl 0 rfl) ?_
    obtain ⟨r2, hm1, h⟩ := g_bv h
    refine g_callVi (As := []) hc hG (mX11_here l E hm1) mlX11_127 mcX11_here miX11_here rfl rfl rfl rfl hl.1 rfl rfl ⟨by decide, by decide⟩ (Nat.le_of_ble_eq_true rfl) ⟨by decide, by decide⟩ dX11_next_129 rfl (fun H locs hG => ?_)
    obtain ⟨r4, hm3, h⟩ := g_bv h
    refine g_callSi (As := [.int r2]) hc hG (mX11_isDigit l E hm3) mlX11_147 mcX11_isDigit msX11_isDigit rfl hl.1 rfl rfl ⟨by decide, by decide⟩ (Nat.le_of_ble_eq_true rfl) ⟨by decide, by decide⟩ dX11_next_132 rfl (fun H locs hG => ?_)
    refine lv_if_eq (tgt := 187) hx hb dX11_next_135 (by decide) (fun c5 => ?_) (fun c5 => ?_)
    · have h := g_pos c5 h
      exact g_vret hc hG dX11_next_187 h
    · have h := g_neg c5 h
      refine lv_aload_n hx hb dX11_next_138 rfl (lv_at hl 0 rfl) ?_
      refine lv_aload_n hx hb dX11_next_139 rfl (lv_at hl 0 rfl) ?_
      refine g_getI hc hG 54 flX11_144 rfl rfl dX11_next_140 ?_
      refine lv_sipush (v := (9999 : Int32)) hx hb dX11_next_143 (by decide) ?_
      refine lv_icmp_le (tgt := 156) hx hb dX11_next_146 (by decide) (fun c6 => ?_) (fun c6 => ?_)
      · have h := g_pos c6 h
        refine lv_bipush (v := (10 : Int32)) hx hb dX11_next_156 (by decide) ?_
        refine lv_aload_n hx hb dX11_next_158 rfl (lv_at hl 0 rfl) ?_
        refine g_getI hc hG 54 flX11_144 rfl rfl dX11_next_159 ?_
        refine lv_imul hx hb dX11_next_162 ?_
        refine lv_aload_n hx hb dX11_next_163 rfl (lv_at hl 0 rfl) ?_
        obtain ⟨r8, hm7, h⟩ := g_bv h
        refine g_callVi (As := []) hc hG (mX11_here l E hm7) mlX11_127 mcX11_here miX11_here rfl rfl rfl rfl hl.1 rfl rfl ⟨by decide, by decide⟩ (Nat.le_of_ble_eq_true rfl) ⟨by decide, by decide⟩ dX11_next_164 rfl (fun H locs hG => ?_)
        refine lv_iadd hx hb dX11_next_167 ?_
        refine lv_bipush (v := (48 : Int32)) hx hb dX11_next_168 (by decide) ?_
        refine lv_isub hx hb dX11_next_170 ?_
        exact wX11_next_171 hc ih S ((((10 : Int32) * (S.1 54 17)) + r8) - (48 : Int32)) _ _ _ (lv_sub hl [0] rfl) hG h
      · have h := g_neg c6 h
        refine lv_aload_n hx hb dX11_next_149 rfl (lv_at hl 0 rfl) ?_
        refine g_getI hc hG 54 flX11_144 rfl rfl dX11_next_150 ?_
        refine lv_goto (tgt := 171) hx hb dX11_next_153 (by decide) ?_
        exact wX11_next_171 hc ih S (S.1 54 17) _ _ _ (lv_sub hl [0] rfl) hG h
def fX11_next_280 (S : GS) (a1 : Int32) : Option (Unit × GS) := (if (S.1 54 17) = a1 then (if a1 = (59 : Int32) then (some ((), S)) else (if a1 = (45 : Int32) then (some ((), S)) else (if a1 = (43 : Int32) then (some ((), S)) else (if a1 = (42 : Int32) then (some ((), S)) else (if a1 = (47 : Int32) then (some ((), S)) else (if a1 = (40 : Int32) then (some ((), S)) else (if a1 = (41 : Int32) then (some ((), S)) else (if a1 = (60 : Int32) then (some ((), S)) else (if a1 = (61 : Int32) then (some ((), S)) else (if a1 = (62 : Int32) then (some ((), S)) else glet (gsi S 54 16 (4 : Int32)) fun S12 => (some ((), S12)))))))))))) else glet (gsi S 54 14 ((S.1 54 14) + (1 : Int32))) fun S13 => (some ((), S13)))
set_option maxRecDepth 100000 in
set_option maxHeartbeats 4000000 in
theorem wX11_next_280 {p : Program} {l : Launch} {e : Env} {s : State} {m : MethodId} {args : Array Value} {below : List Frame} {meth : Method} {c : Code} {E : GE} {res : (Unit × GS)} (hc : GM E p s m args meth c RX11 cX11_next 2 none) : ∀ (S : GS) (a1 : Int32) (H : Heap) (locs : List Loc) (ls : Array Slot), lv_has ls 2 [(0, gR E 54), (1, .int a1)] → GX E S H locs → fX11_next_280 S a1 = some res → W p l e rmX11_next s m args below meth c H locs 0 0 (gZ E below args s none res.2) (F0 m 280 ls []) := by
  obtain ⟨hx, hb, -, -, -, hown, hts, -, -⟩ := id hc
  intro S a1 H locs ls hl hG h
  unfold fX11_next_280 at h
  refine lv_aload_n hx hb dX11_next_280 rfl (lv_at hl 0 rfl) ?_
  refine g_getI hc hG 54 flX11_144 rfl rfl dX11_next_281 ?_
  refine lv_iload_n hx hb dX11_next_284 rfl (lv_at hl 1 rfl) ?_
  refine lv_icmp_eq (tgt := 301) hx hb dX11_next_285 (by decide) (fun c1 => ?_) (fun c1 => ?_)
  · have h := g_pos c1 h
    refine lv_iload_n hx hb dX11_next_301 rfl (lv_at hl 1 rfl) ?_
    refine lv_bipush (v := (59 : Int32)) hx hb dX11_next_302 (by decide) ?_
    refine lv_icmp_eq (tgt := 366) hx hb dX11_next_304 (by decide) (fun c2 => ?_) (fun c2 => ?_)
    · have h := g_pos c2 h
      exact g_vret hc hG dX11_next_366 h
    · have h := g_neg c2 h
      refine lv_iload_n hx hb dX11_next_307 rfl (lv_at hl 1 rfl) ?_
      refine lv_bipush (v := (45 : Int32)) hx hb dX11_next_308 (by decide) ?_
      refine lv_icmp_eq (tgt := 366) hx hb dX11_next_310 (by decide) (fun c3 => ?_) (fun c3 => ?_)
      · have h := g_pos c3 h
        exact g_vret hc hG dX11_next_366 h
      · have h := g_neg c3 h
        refine lv_iload_n hx hb dX11_next_313 rfl (lv_at hl 1 rfl) ?_
        refine lv_bipush (v := (43 : Int32)) hx hb dX11_next_314 (by decide) ?_
        refine lv_icmp_eq (tgt := 366) hx hb dX11_next_316 (by decide) (fun c4 => ?_) (fun c4 => ?_)
        · have h := g_pos c4 h
          exact g_vret hc hG dX11_next_366 h
        · have h := g_neg c4 h
          refine lv_iload_n hx hb dX11_next_319 rfl (lv_at hl 1 rfl) ?_
          refine lv_bipush (v := (42 : Int32)) hx hb dX11_next_320 (by decide) ?_
          refine lv_icmp_eq (tgt := 366) hx hb dX11_next_322 (by decide) (fun c5 => ?_) (fun c5 => ?_)
          · have h := g_pos c5 h
            exact g_vret hc hG dX11_next_366 h
          · have h := g_neg c5 h
            refine lv_iload_n hx hb dX11_next_325 rfl (lv_at hl 1 rfl) ?_
            refine lv_bipush (v := (47 : Int32)) hx hb dX11_next_326 (by decide) ?_
            refine lv_icmp_eq (tgt := 366) hx hb dX11_next_328 (by decide) (fun c6 => ?_) (fun c6 => ?_)
            · have h := g_pos c6 h
              exact g_vret hc hG dX11_next_366 h
            · have h := g_neg c6 h
              refine lv_iload_n hx hb dX11_next_331 rfl (lv_at hl 1 rfl) ?_
              refine lv_bipush (v := (40 : Int32)) hx hb dX11_next_332 (by decide) ?_
              refine lv_icmp_eq (tgt := 366) hx hb dX11_next_334 (by decide) (fun c7 => ?_) (fun c7 => ?_)
              · have h := g_pos c7 h
                exact g_vret hc hG dX11_next_366 h
              · have h := g_neg c7 h
                refine lv_iload_n hx hb dX11_next_337 rfl (lv_at hl 1 rfl) ?_
                refine lv_bipush (v := (41 : Int32)) hx hb dX11_next_338 (by decide) ?_
                refine lv_icmp_eq (tgt := 366) hx hb dX11_next_340 (by decide) (fun c8 => ?_) (fun c8 => ?_)
                · have h := g_pos c8 h
                  exact g_vret hc hG dX11_next_366 h
                · have h := g_neg c8 h
                  refine lv_iload_n hx hb dX11_next_343 rfl (lv_at hl 1 rfl) ?_
                  refine lv_bipush (v := (60 : Int32)) hx hb dX11_next_344 (by decide) ?_
                  refine lv_icmp_eq (tgt := 366) hx hb dX11_next_346 (by decide) (fun c9 => ?_) (fun c9 => ?_)
                  · have h := g_pos c9 h
                    exact g_vret hc hG dX11_next_366 h
                  · have h := g_neg c9 h
                    refine lv_iload_n hx hb dX11_next_349 rfl (lv_at hl 1 rfl) ?_
                    refine lv_bipush (v := (61 : Int32)) hx hb dX11_next_350 (by decide) ?_
                    refine lv_icmp_eq (tgt := 366) hx hb dX11_next_352 (by decide) (fun c10 => ?_) (fun c10 => ?_)
                    · have h := g_pos c10 h
                      exact g_vret hc hG dX11_next_366 h
                    · have h := g_neg c10 h
                      refine lv_iload_n hx hb dX11_next_355 rfl (lv_at hl 1 rfl) ?_
                      refine lv_bipush (v := (62 : Int32)) hx hb dX11_next_356 (by decide) ?_
                      refine lv_icmp_eq (tgt := 366) hx hb dX11_next_358 (by decide) (fun c11 => ?_) (fun c11 => ?_)
                      · have h := g_pos c11 h
                        exact g_vret hc hG dX11_next_366 h
                      · have h := g_neg c11 h
                        refine lv_aload_n hx hb dX11_next_361 rfl (lv_at hl 0 rfl) ?_
                        refine lv_iconst (v := (4 : Int32)) hx hb dX11_next_362 (by decide) ?_
                        refine g_putI hc hG 54 fpX11_134 rfl rfl rfl rfl dX11_next_363 (fun S12 H locs eS12 hG => ?_)
                        have h := g_let eS12 h
                        exact g_vret hc hG dX11_next_366 h
  · have h := g_neg c1 h
    refine lv_aload_n hx hb dX11_next_288 rfl (lv_at hl 0 rfl) ?_
    refine lv_dup hx hb dX11_next_289 rfl ?_
    refine g_getI hc hG 54 flX11_121 rfl rfl dX11_next_290 ?_
    refine lv_iconst (v := (1 : Int32)) hx hb dX11_next_293 (by decide) ?_
    refine lv_iadd hx hb dX11_next_294 ?_
    refine g_putI hc hG 54 fpX11_121 rfl rfl rfl rfl dX11_next_295 (fun S13 H locs eS13 hG => ?_)
    have h := g_let eS13 h
    refine lv_goto (tgt := 366) hx hb dX11_next_298 (by decide) ?_
    exact g_vret hc hG dX11_next_366 h
def fX11_next_258 (S : GS) (a1 : Int32) : Option (Unit × GS) := (if a1 = (62 : Int32) then gbv (fX11_here S) fun r3 => (if r3 = (61 : Int32) then glet (gsi S 54 17 (258 : Int32)) fun S5 => (fX11_next_280 S5 a1) else (fX11_next_280 S a1)) else (fX11_next_280 S a1))
set_option maxRecDepth 100000 in
set_option maxHeartbeats 4000000 in
theorem wX11_next_258 {p : Program} {l : Launch} {e : Env} {s : State} {m : MethodId} {args : Array Value} {below : List Frame} {meth : Method} {c : Code} {E : GE} {res : (Unit × GS)} (hc : GM E p s m args meth c RX11 cX11_next 2 none) : ∀ (S : GS) (a1 : Int32) (H : Heap) (locs : List Loc) (ls : Array Slot), lv_has ls 2 [(0, gR E 54), (1, .int a1)] → GX E S H locs → fX11_next_258 S a1 = some res → W p l e rmX11_next s m args below meth c H locs 0 0 (gZ E below args s none res.2) (F0 m 258 ls []) := by
  obtain ⟨hx, hb, -, -, -, hown, hts, -, -⟩ := id hc
  intro S a1 H locs ls hl hG h
  unfold fX11_next_258 at h
  refine lv_iload_n hx hb dX11_next_258 rfl (lv_at hl 1 rfl) ?_
  refine lv_bipush (v := (62 : Int32)) hx hb dX11_next_259 (by decide) ?_
  refine lv_icmp_ne (tgt := 280) hx hb dX11_next_261 (by decide) (fun c1 => ?_) (fun c1 => ?_)
  · have h := g_neg c1 h
    exact wX11_next_280 hc S a1 _ _ _ (lv_sub hl [0, 1] rfl) hG h
  · have h := g_pos c1 h
    refine lv_aload_n hx hb dX11_next_264 rfl (lv_at hl 0 rfl) ?_
    obtain ⟨r3, hm2, h⟩ := g_bv h
    refine g_callVi (As := []) hc hG (mX11_here l E hm2) mlX11_127 mcX11_here miX11_here rfl rfl rfl rfl hl.1 rfl rfl ⟨by decide, by decide⟩ (Nat.le_of_ble_eq_true rfl) ⟨by decide, by decide⟩ dX11_next_265 rfl (fun H locs hG => ?_)
    refine lv_bipush (v := (61 : Int32)) hx hb dX11_next_268 (by decide) ?_
    refine lv_icmp_ne (tgt := 280) hx hb dX11_next_270 (by decide) (fun c4 => ?_) (fun c4 => ?_)
    · have h := g_neg c4 h
      exact wX11_next_280 hc S a1 _ _ _ (lv_sub hl [0, 1] rfl) hG h
    · have h := g_pos c4 h
      refine lv_aload_n hx hb dX11_next_273 rfl (lv_at hl 0 rfl) ?_
      refine lv_sipush (v := (258 : Int32)) hx hb dX11_next_274 (by decide) ?_
      refine g_putI hc hG 54 fpX11_144 rfl rfl rfl rfl dX11_next_277 (fun S5 H locs eS5 hG => ?_)
      have h := g_let eS5 h
      exact wX11_next_280 hc S5 a1 _ _ _ (lv_sub hl [0, 1] rfl) hG h
def fX11_next_233 (S : GS) (a1 : Int32) : Option (Unit × GS) := (if a1 = (60 : Int32) then gbv (fX11_here S) fun r3 => (if r3 = (62 : Int32) then glet (gsi S 54 17 (257 : Int32)) fun S5 => (fX11_next_280 S5 a1) else (fX11_next_258 S a1)) else (fX11_next_258 S a1))
set_option maxRecDepth 100000 in
set_option maxHeartbeats 4000000 in
theorem wX11_next_233 {p : Program} {l : Launch} {e : Env} {s : State} {m : MethodId} {args : Array Value} {below : List Frame} {meth : Method} {c : Code} {E : GE} {res : (Unit × GS)} (hc : GM E p s m args meth c RX11 cX11_next 2 none) : ∀ (S : GS) (a1 : Int32) (H : Heap) (locs : List Loc) (ls : Array Slot), lv_has ls 2 [(0, gR E 54), (1, .int a1)] → GX E S H locs → fX11_next_233 S a1 = some res → W p l e rmX11_next s m args below meth c H locs 0 0 (gZ E below args s none res.2) (F0 m 233 ls []) := by
  obtain ⟨hx, hb, -, -, -, hown, hts, -, -⟩ := id hc
  intro S a1 H locs ls hl hG h
  unfold fX11_next_233 at h
  refine lv_iload_n hx hb dX11_next_233 rfl (lv_at hl 1 rfl) ?_
  refine lv_bipush (v := (60 : Int32)) hx hb dX11_next_234 (by decide) ?_
  refine lv_icmp_ne (tgt := 258) hx hb dX11_next_236 (by decide) (fun c1 => ?_) (fun c1 => ?_)
  · have h := g_neg c1 h
    exact wX11_next_258 hc S a1 _ _ _ (lv_sub hl [0, 1] rfl) hG h
  · have h := g_pos c1 h
    refine lv_aload_n hx hb dX11_next_239 rfl (lv_at hl 0 rfl) ?_
    obtain ⟨r3, hm2, h⟩ := g_bv h
    refine g_callVi (As := []) hc hG (mX11_here l E hm2) mlX11_127 mcX11_here miX11_here rfl rfl rfl rfl hl.1 rfl rfl ⟨by decide, by decide⟩ (Nat.le_of_ble_eq_true rfl) ⟨by decide, by decide⟩ dX11_next_240 rfl (fun H locs hG => ?_)
    refine lv_bipush (v := (62 : Int32)) hx hb dX11_next_243 (by decide) ?_
    refine lv_icmp_ne (tgt := 258) hx hb dX11_next_245 (by decide) (fun c4 => ?_) (fun c4 => ?_)
    · have h := g_neg c4 h
      exact wX11_next_258 hc S a1 _ _ _ (lv_sub hl [0, 1] rfl) hG h
    · have h := g_pos c4 h
      refine lv_aload_n hx hb dX11_next_248 rfl (lv_at hl 0 rfl) ?_
      refine lv_sipush (v := (257 : Int32)) hx hb dX11_next_249 (by decide) ?_
      refine g_putI hc hG 54 fpX11_144 rfl rfl rfl rfl dX11_next_252 (fun S5 H locs eS5 hG => ?_)
      have h := g_let eS5 h
      refine lv_goto (tgt := 280) hx hb dX11_next_255 (by decide) ?_
      exact wX11_next_280 hc S5 a1 _ _ _ (lv_sub hl [0, 1] rfl) hG h
def fX11_next_0 : Nat → GS → Option (Unit × GS)
  | 0, _ => none
  | n + 1, S => gbv (fX11_here S) fun r2 => (if r2 = (10 : Int32) then (fX11_next_18 (fX11_next_0 n) S) else gbv (fX11_here S) fun r5 => (if r5 = (32 : Int32) then (fX11_next_18 (fX11_next_0 n) S) else glet (gsi S 54 15 (S.1 54 14)) fun S7 => gbv (fX11_here S7) fun r9 => (if r9 = (-1 : Int32) then glet (gsi S7 54 16 (3 : Int32)) fun S27 => (some ((), S27)) else gbv (fX11_isSmall S7 r9) fun r12 => (if r12 = 0 then gbv (fX11_isDigit S7 r9) fun r15 => (if r15 = 0 then glet (gsi S7 54 14 ((S7.1 54 14) + (1 : Int32))) fun S17 => glet (gsi S17 54 16 (2 : Int32)) fun S18 => glet (gsi S18 54 17 r9) fun S19 => (if r9 = (60 : Int32) then gbv (fX11_here S19) fun r22 => (if r22 = (61 : Int32) then glet (gsi S19 54 17 (256 : Int32)) fun S24 => (fX11_next_280 S24 r9) else (fX11_next_233 S19 r9)) else (fX11_next_233 S19 r9)) else glet (gsi S7 54 16 (1 : Int32)) fun S25 => glet (gsi S25 54 17 (0 : Int32)) fun S26 => (fX11_next_128 FU S26)) else (fX11_next_62 FU S7)))))
set_option maxRecDepth 100000 in
set_option maxHeartbeats 4000000 in
theorem wX11_next_0 {p : Program} {l : Launch} {e : Env} {s : State} {m : MethodId} {args : Array Value} {below : List Frame} {meth : Method} {c : Code} {E : GE} {res : (Unit × GS)} (hc : GM E p s m args meth c RX11 cX11_next 2 none) : ∀ (n : Nat), ∀ (S : GS) (H : Heap) (locs : List Loc) (ls : Array Slot), lv_has ls 2 [(0, gR E 54)] → GX E S H locs → fX11_next_0 n S = some res → W p l e rmX11_next s m args below meth c H locs 0 0 (gZ E below args s none res.2) (F0 m 0 ls []) := by
  obtain ⟨hx, hb, -, -, -, hown, hts, -, -⟩ := id hc
  intro n
  induction n with
  | zero => intro S H locs ls hl hG h; cases h
  | succ n ih =>
    intro S H locs ls hl hG h
    rw [fX11_next_0] at h
    refine lv_aload_n hx hb dX11_next_0 rfl (lv_at hl 0 rfl) ?_
    obtain ⟨r2, hm1, h⟩ := g_bv h
    refine g_callVi (As := []) hc hG (mX11_here l E hm1) mlX11_127 mcX11_here miX11_here rfl rfl rfl rfl hl.1 rfl rfl ⟨by decide, by decide⟩ (Nat.le_of_ble_eq_true rfl) ⟨by decide, by decide⟩ dX11_next_1 rfl (fun H locs hG => ?_)
    refine lv_bipush (v := (10 : Int32)) hx hb dX11_next_4 (by decide) ?_
    refine lv_icmp_eq (tgt := 18) hx hb dX11_next_6 (by decide) (fun c3 => ?_) (fun c3 => ?_)
    · have h := g_pos c3 h
      exact wX11_next_18 hc ih S _ _ _ (lv_sub hl [0] rfl) hG h
    · have h := g_neg c3 h
      refine lv_aload_n hx hb dX11_next_9 rfl (lv_at hl 0 rfl) ?_
      obtain ⟨r5, hm4, h⟩ := g_bv h
      refine g_callVi (As := []) hc hG (mX11_here l E hm4) mlX11_127 mcX11_here miX11_here rfl rfl rfl rfl hl.1 rfl rfl ⟨by decide, by decide⟩ (Nat.le_of_ble_eq_true rfl) ⟨by decide, by decide⟩ dX11_next_10 rfl (fun H locs hG => ?_)
      refine lv_bipush (v := (32 : Int32)) hx hb dX11_next_13 (by decide) ?_
      refine lv_icmp_ne (tgt := 31) hx hb dX11_next_15 (by decide) (fun c6 => ?_) (fun c6 => ?_)
      · have h := g_neg c6 h
        refine lv_aload_n hx hb dX11_next_31 rfl (lv_at hl 0 rfl) ?_
        refine lv_aload_n hx hb dX11_next_32 rfl (lv_at hl 0 rfl) ?_
        refine g_getI hc hG 54 flX11_121 rfl rfl dX11_next_33 ?_
        refine g_putI hc hG 54 fpX11_131 rfl rfl rfl rfl dX11_next_36 (fun S7 H locs eS7 hG => ?_)
        have h := g_let eS7 h
        refine lv_aload_n hx hb dX11_next_39 rfl (lv_at hl 0 rfl) ?_
        obtain ⟨r9, hm8, h⟩ := g_bv h
        refine g_callVi (As := []) hc hG (mX11_here l E hm8) mlX11_127 mcX11_here miX11_here rfl rfl rfl rfl hl.1 rfl rfl ⟨by decide, by decide⟩ (Nat.le_of_ble_eq_true rfl) ⟨by decide, by decide⟩ dX11_next_40 rfl (fun H locs hG => ?_)
        refine lv_istore_n (lv' := [(1, .int r9), (0, gR E 54)]) hx hb dX11_next_43 rfl hl (by decide) rfl (fun ls hl => ?_)
        refine lv_iload_n hx hb dX11_next_44 rfl (lv_at hl 0 rfl) ?_
        refine lv_iconst (v := (-1 : Int32)) hx hb dX11_next_45 (by decide) ?_
        refine lv_icmp_ne (tgt := 55) hx hb dX11_next_46 (by decide) (fun c10 => ?_) (fun c10 => ?_)
        · have h := g_neg c10 h
          refine lv_iload_n hx hb dX11_next_55 rfl (lv_at hl 0 rfl) ?_
          obtain ⟨r12, hm11, h⟩ := g_bv h
          refine g_callSi (As := [.int r9]) hc hG (mX11_isSmall l E hm11) mlX11_137 mcX11_isSmall msX11_isSmall rfl hl.1 rfl rfl ⟨by decide, by decide⟩ (Nat.le_of_ble_eq_true rfl) ⟨by decide, by decide⟩ dX11_next_56 rfl (fun H locs hG => ?_)
          refine lv_if_eq (tgt := 111) hx hb dX11_next_59 (by decide) (fun c13 => ?_) (fun c13 => ?_)
          · have h := g_pos c13 h
            refine lv_iload_n hx hb dX11_next_111 rfl (lv_at hl 0 rfl) ?_
            obtain ⟨r15, hm14, h⟩ := g_bv h
            refine g_callSi (As := [.int r9]) hc hG (mX11_isDigit l E hm14) mlX11_147 mcX11_isDigit msX11_isDigit rfl hl.1 rfl rfl ⟨by decide, by decide⟩ (Nat.le_of_ble_eq_true rfl) ⟨by decide, by decide⟩ dX11_next_112 rfl (fun H locs hG => ?_)
            refine lv_if_eq (tgt := 188) hx hb dX11_next_115 (by decide) (fun c16 => ?_) (fun c16 => ?_)
            · have h := g_pos c16 h
              refine lv_aload_n hx hb dX11_next_188 rfl (lv_at hl 1 rfl) ?_
              refine lv_dup hx hb dX11_next_189 rfl ?_
              refine g_getI hc hG 54 flX11_121 rfl rfl dX11_next_190 ?_
              refine lv_iconst (v := (1 : Int32)) hx hb dX11_next_193 (by decide) ?_
              refine lv_iadd hx hb dX11_next_194 ?_
              refine g_putI hc hG 54 fpX11_121 rfl rfl rfl rfl dX11_next_195 (fun S17 H locs eS17 hG => ?_)
              have h := g_let eS17 h
              refine lv_aload_n hx hb dX11_next_198 rfl (lv_at hl 1 rfl) ?_
              refine lv_iconst (v := (2 : Int32)) hx hb dX11_next_199 (by decide) ?_
              refine g_putI hc hG 54 fpX11_134 rfl rfl rfl rfl dX11_next_200 (fun S18 H locs eS18 hG => ?_)
              have h := g_let eS18 h
              refine lv_aload_n hx hb dX11_next_203 rfl (lv_at hl 1 rfl) ?_
              refine lv_iload_n hx hb dX11_next_204 rfl (lv_at hl 0 rfl) ?_
              refine g_putI hc hG 54 fpX11_144 rfl rfl rfl rfl dX11_next_205 (fun S19 H locs eS19 hG => ?_)
              have h := g_let eS19 h
              refine lv_iload_n hx hb dX11_next_208 rfl (lv_at hl 0 rfl) ?_
              refine lv_bipush (v := (60 : Int32)) hx hb dX11_next_209 (by decide) ?_
              refine lv_icmp_ne (tgt := 233) hx hb dX11_next_211 (by decide) (fun c20 => ?_) (fun c20 => ?_)
              · have h := g_neg c20 h
                exact wX11_next_233 hc S19 r9 _ _ _ (lv_sub hl [1, 0] rfl) hG h
              · have h := g_pos c20 h
                refine lv_aload_n hx hb dX11_next_214 rfl (lv_at hl 1 rfl) ?_
                obtain ⟨r22, hm21, h⟩ := g_bv h
                refine g_callVi (As := []) hc hG (mX11_here l E hm21) mlX11_127 mcX11_here miX11_here rfl rfl rfl rfl hl.1 rfl rfl ⟨by decide, by decide⟩ (Nat.le_of_ble_eq_true rfl) ⟨by decide, by decide⟩ dX11_next_215 rfl (fun H locs hG => ?_)
                refine lv_bipush (v := (61 : Int32)) hx hb dX11_next_218 (by decide) ?_
                refine lv_icmp_ne (tgt := 233) hx hb dX11_next_220 (by decide) (fun c23 => ?_) (fun c23 => ?_)
                · have h := g_neg c23 h
                  exact wX11_next_233 hc S19 r9 _ _ _ (lv_sub hl [1, 0] rfl) hG h
                · have h := g_pos c23 h
                  refine lv_aload_n hx hb dX11_next_223 rfl (lv_at hl 1 rfl) ?_
                  refine lv_sipush (v := (256 : Int32)) hx hb dX11_next_224 (by decide) ?_
                  refine g_putI hc hG 54 fpX11_144 rfl rfl rfl rfl dX11_next_227 (fun S24 H locs eS24 hG => ?_)
                  have h := g_let eS24 h
                  refine lv_goto (tgt := 280) hx hb dX11_next_230 (by decide) ?_
                  exact wX11_next_280 hc S24 r9 _ _ _ (lv_sub hl [1, 0] rfl) hG h
            · have h := g_neg c16 h
              refine lv_aload_n hx hb dX11_next_118 rfl (lv_at hl 1 rfl) ?_
              refine lv_iconst (v := (1 : Int32)) hx hb dX11_next_119 (by decide) ?_
              refine g_putI hc hG 54 fpX11_134 rfl rfl rfl rfl dX11_next_120 (fun S25 H locs eS25 hG => ?_)
              have h := g_let eS25 h
              refine lv_aload_n hx hb dX11_next_123 rfl (lv_at hl 1 rfl) ?_
              refine lv_iconst (v := (0 : Int32)) hx hb dX11_next_124 (by decide) ?_
              refine g_putI hc hG 54 fpX11_144 rfl rfl rfl rfl dX11_next_125 (fun S26 H locs eS26 hG => ?_)
              have h := g_let eS26 h
              exact wX11_next_128 hc FU S26 _ _ _ (lv_sub hl [1] rfl) hG h
          · have h := g_neg c13 h
            exact wX11_next_62 hc FU S7 _ _ _ (lv_sub hl [1] rfl) hG h
        · have h := g_pos c10 h
          refine lv_aload_n hx hb dX11_next_49 rfl (lv_at hl 1 rfl) ?_
          refine lv_iconst (v := (3 : Int32)) hx hb dX11_next_50 (by decide) ?_
          refine g_putI hc hG 54 fpX11_134 rfl rfl rfl rfl dX11_next_51 (fun S27 H locs eS27 hG => ?_)
          have h := g_let eS27 h
          exact g_vret hc hG dX11_next_54 h
      · have h := g_pos c6 h
        exact wX11_next_18 hc ih S _ _ _ (lv_sub hl [0] rfl) hG h
def fX11_next (S : GS) : Option (Unit × GS) := fX11_next_0 FU S
theorem mX11_next (l : Launch) (E : GE) {S : GS} {res : (Unit × GS)} (h : fX11_next S = some res) : gMet l E yX11_next cX11_next 2 none rmX11_next [gR E 54] S none res.2 :=
  g_met (by decide) (Nat.le_of_ble_eq_true rfl) rfl fun p e s m below meth c H ls hc hG hl => wX11_next_0 hc FU S H [] ls hl hG h
abbrev rmX11_wrong : Room := { frames := 0, cells := 0, slots := 0, locals := 0 }
def fX11_wrong (S : GS) (a1 : Int32) : Option (Unit × GS) := (if (S.1 54 18) = 0 then glet (gsi S 54 18 a1) fun S2 => glet (gsi S2 54 19 (S2.1 54 15)) fun S3 => (some ((), S3)) else (some ((), S)))
set_option maxRecDepth 100000 in
set_option maxHeartbeats 4000000 in
theorem wX11_wrong_0 {p : Program} {l : Launch} {e : Env} {s : State} {m : MethodId} {args : Array Value} {below : List Frame} {meth : Method} {c : Code} {E : GE} {res : (Unit × GS)} (hc : GM E p s m args meth c RX11 cX11_wrong 2 none) : ∀ (S : GS) (a1 : Int32) (H : Heap) (locs : List Loc) (ls : Array Slot), lv_has ls 2 [(0, gR E 54), (1, .int a1)] → GX E S H locs → fX11_wrong S a1 = some res → W p l e rmX11_wrong s m args below meth c H locs 0 0 (gZ E below args s none res.2) (F0 m 0 ls []) := by
  obtain ⟨hx, hb, -, -, -, hown, hts, -, -⟩ := id hc
  intro S a1 H locs ls hl hG h
  unfold fX11_wrong at h
  refine lv_aload_n hx hb dX11_wrong_0 rfl (lv_at hl 0 rfl) ?_
  refine g_getI hc hG 54 flX11_161 rfl rfl dX11_wrong_1 ?_
  refine lv_if_eq (tgt := 8) hx hb dX11_wrong_4 (by decide) (fun c1 => ?_) (fun c1 => ?_)
  · have h := g_pos c1 h
    refine lv_aload_n hx hb dX11_wrong_8 rfl (lv_at hl 0 rfl) ?_
    refine lv_iload_n hx hb dX11_wrong_9 rfl (lv_at hl 1 rfl) ?_
    refine g_putI hc hG 54 fpX11_161 rfl rfl rfl rfl dX11_wrong_10 (fun S2 H locs eS2 hG => ?_)
    have h := g_let eS2 h
    refine lv_aload_n hx hb dX11_wrong_13 rfl (lv_at hl 0 rfl) ?_
    refine lv_aload_n hx hb dX11_wrong_14 rfl (lv_at hl 0 rfl) ?_
    refine g_getI hc hG 54 flX11_131 rfl rfl dX11_wrong_15 ?_
    refine g_putI hc hG 54 fpX11_164 rfl rfl rfl rfl dX11_wrong_18 (fun S3 H locs eS3 hG => ?_)
    have h := g_let eS3 h
    exact g_vret hc hG dX11_wrong_21 h
  · have h := g_neg c1 h
    exact g_vret hc hG dX11_wrong_7 h
theorem mX11_wrong (l : Launch) (E : GE) {S : GS} {a1 : Int32} {res : (Unit × GS)} (h : fX11_wrong S a1 = some res) : gMet l E yX11_wrong cX11_wrong 2 none rmX11_wrong [gR E 54, .int a1] S none res.2 :=
  g_met (by decide) (Nat.le_of_ble_eq_true rfl) rfl fun p e s m below meth c H ls hc hG hl => wX11_wrong_0 hc S a1 H [] ls hl hG h
abbrev rmX11_isSign : Room := { frames := 0, cells := 0, slots := 0, locals := 0 }
def fX11_isSign (S : GS) (a1 : Int32) : Option Int32 := (if (S.1 54 16) = (2 : Int32) then (if (S.1 54 17) = a1 then (some (1 : Int32)) else (some (0 : Int32))) else (some (0 : Int32)))
set_option maxRecDepth 100000 in
set_option maxHeartbeats 4000000 in
theorem wX11_isSign_0 {p : Program} {l : Launch} {e : Env} {s : State} {m : MethodId} {args : Array Value} {below : List Frame} {meth : Method} {c : Code} {E : GE} {res : Int32} (hc : GM E p s m args meth c RX11 cX11_isSign 2 (some .boolean)) : ∀ (S : GS) (a1 : Int32) (H : Heap) (locs : List Loc) (ls : Array Slot), lv_has ls 2 [(0, gR E 54), (1, .int a1)] → GX E S H locs → fX11_isSign S a1 = some res → W p l e rmX11_isSign s m args below meth c H locs 0 0 (gZ E below args s (some (.int res)) S) (F0 m 0 ls []) := by
  obtain ⟨hx, hb, -, -, -, hown, hts, -, -⟩ := id hc
  intro S a1 H locs ls hl hG h
  unfold fX11_isSign at h
  refine lv_aload_n hx hb dX11_isSign_0 rfl (lv_at hl 0 rfl) ?_
  refine g_getI hc hG 54 flX11_134 rfl rfl dX11_isSign_1 ?_
  refine lv_iconst (v := (2 : Int32)) hx hb dX11_isSign_4 (by decide) ?_
  refine lv_icmp_ne (tgt := 20) hx hb dX11_isSign_5 (by decide) (fun c1 => ?_) (fun c1 => ?_)
  · have h := g_neg c1 h
    refine lv_iconst (v := (0 : Int32)) hx hb dX11_isSign_20 (by decide) ?_
    exact g_zretp hc hG (Or.inl rfl) dX11_isSign_21 h
  · have h := g_pos c1 h
    refine lv_aload_n hx hb dX11_isSign_8 rfl (lv_at hl 0 rfl) ?_
    refine g_getI hc hG 54 flX11_144 rfl rfl dX11_isSign_9 ?_
    refine lv_iload_n hx hb dX11_isSign_12 rfl (lv_at hl 1 rfl) ?_
    refine lv_icmp_ne (tgt := 20) hx hb dX11_isSign_13 (by decide) (fun c2 => ?_) (fun c2 => ?_)
    · have h := g_neg c2 h
      refine lv_iconst (v := (0 : Int32)) hx hb dX11_isSign_20 (by decide) ?_
      exact g_zretp hc hG (Or.inl rfl) dX11_isSign_21 h
    · have h := g_pos c2 h
      refine lv_iconst (v := (1 : Int32)) hx hb dX11_isSign_16 (by decide) ?_
      refine lv_goto (tgt := 21) hx hb dX11_isSign_17 (by decide) ?_
      exact g_zretp hc hG (Or.inr rfl) dX11_isSign_21 h
theorem mX11_isSign (l : Launch) (E : GE) {S : GS} {a1 : Int32} {res : Int32} (h : fX11_isSign S a1 = some res) : gMet l E yX11_isSign cX11_isSign 2 (some .boolean) rmX11_isSign [gR E 54, .int a1] S (some (.int res)) S :=
  g_met (by decide) (Nat.le_of_ble_eq_true rfl) rfl fun p e s m below meth c H ls hc hG hl => wX11_isSign_0 hc S a1 H [] ls hl hG h
abbrev rmX11_knot : Room := { frames := 1, cells := 0, slots := 0, locals := 21 }
def fX11_knot (S : GS) : Option (Unit × GS) := (if (S.1 54 10) = (64 : Int32) then gbd (fX11_wrong S (2 : Int32)) fun r4 S5 => (some ((), S5)) else glet (gsi S 54 10 ((S.1 54 10) + (1 : Int32))) fun S2 => (some ((), S2)))
set_option maxRecDepth 100000 in
set_option maxHeartbeats 4000000 in
theorem wX11_knot_0 {p : Program} {l : Launch} {e : Env} {s : State} {m : MethodId} {args : Array Value} {below : List Frame} {meth : Method} {c : Code} {E : GE} {res : (Unit × GS)} (hc : GM E p s m args meth c RX11 cX11_knot 1 none) : ∀ (S : GS) (H : Heap) (locs : List Loc) (ls : Array Slot), lv_has ls 1 [(0, gR E 54)] → GX E S H locs → fX11_knot S = some res → W p l e rmX11_knot s m args below meth c H locs 0 0 (gZ E below args s none res.2) (F0 m 0 ls []) := by
  obtain ⟨hx, hb, -, -, -, hown, hts, -, -⟩ := id hc
  intro S H locs ls hl hG h
  unfold fX11_knot at h
  refine lv_aload_n hx hb dX11_knot_0 rfl (lv_at hl 0 rfl) ?_
  refine g_getI hc hG 54 flX11_192 rfl rfl dX11_knot_1 ?_
  refine lv_bipush (v := (64 : Int32)) hx hb dX11_knot_4 (by decide) ?_
  refine lv_icmp_ne (tgt := 17) hx hb dX11_knot_6 (by decide) (fun c1 => ?_) (fun c1 => ?_)
  · have h := g_neg c1 h
    refine lv_aload_n hx hb dX11_knot_17 rfl (lv_at hl 0 rfl) ?_
    refine lv_dup hx hb dX11_knot_18 rfl ?_
    refine g_getI hc hG 54 flX11_192 rfl rfl dX11_knot_19 ?_
    refine lv_iconst (v := (1 : Int32)) hx hb dX11_knot_22 (by decide) ?_
    refine lv_iadd hx hb dX11_knot_23 ?_
    refine g_putI hc hG 54 fpX11_192 rfl rfl rfl rfl dX11_knot_24 (fun S2 H locs eS2 hG => ?_)
    have h := g_let eS2 h
    exact g_vret hc hG dX11_knot_27 h
  · have h := g_pos c1 h
    refine lv_aload_n hx hb dX11_knot_9 rfl (lv_at hl 0 rfl) ?_
    refine lv_iconst (v := (2 : Int32)) hx hb dX11_knot_10 (by decide) ?_
    obtain ⟨r4, S5, hm3, h⟩ := g_bd h
    refine g_callVv (As := [.int (2 : Int32)]) hc hG (mX11_wrong l E hm3) mlX11_167 mcX11_wrong miX11_wrong rfl rfl rfl rfl hl.1 rfl rfl ⟨by decide, by decide⟩ (Nat.le_of_ble_eq_true rfl) ⟨by decide, by decide⟩ dX11_knot_11 rfl (fun H locs hG => ?_)
    refine lv_goto (tgt := 27) hx hb dX11_knot_14 (by decide) ?_
    exact g_vret hc hG dX11_knot_27 h
theorem mX11_knot (l : Launch) (E : GE) {S : GS} {res : (Unit × GS)} (h : fX11_knot S = some res) : gMet l E yX11_knot cX11_knot 1 none rmX11_knot [gR E 54] S none res.2 :=
  g_met (by decide) (Nat.le_of_ble_eq_true rfl) rfl fun p e s m below meth c H ls hc hG hl => wX11_knot_0 hc S H [] ls hl hG h
abbrev rmX11_out : Room := { frames := 0, cells := 0, slots := 0, locals := 0 }
def fX11_out (S : GS) (a1 : Int32) (a2 : Int32) : Option (Unit × GS) := (if gib (S.1 54 22) 4 = true then (if gib (((64 : Int32) * (S.1 54 22)) + (S.1 58 ((S.1 54 22)).toNatClampNeg)) 256 = true then glet (gsi S 56 (((((64 : Int32) * (S.1 54 22)) + (S.1 58 ((S.1 54 22)).toNatClampNeg))).toNatClampNeg) a1) fun S3 => (if gib (S3.1 54 22) 4 = true then (if gib (((64 : Int32) * (S3.1 54 22)) + (S3.1 58 ((S3.1 54 22)).toNatClampNeg)) 256 = true then glet (gsi S3 57 (((((64 : Int32) * (S3.1 54 22)) + (S3.1 58 ((S3.1 54 22)).toNatClampNeg))).toNatClampNeg) a2) fun S6 => (if gib (S6.1 54 22) 4 = true then glet (gsi S6 58 (((S6.1 54 22)).toNatClampNeg) ((S6.1 58 ((S6.1 54 22)).toNatClampNeg) + (1 : Int32))) fun S8 => (some ((), S8)) else none) else none) else none) else none) else none)
set_option maxRecDepth 100000 in
set_option maxHeartbeats 4000000 in
theorem wX11_out_0 {p : Program} {l : Launch} {e : Env} {s : State} {m : MethodId} {args : Array Value} {below : List Frame} {meth : Method} {c : Code} {E : GE} {res : (Unit × GS)} (hc : GM E p s m args meth c RX11 cX11_out 3 none) : ∀ (S : GS) (a1 : Int32) (a2 : Int32) (H : Heap) (locs : List Loc) (ls : Array Slot), lv_has ls 3 [(0, gR E 54), (1, .int a1), (2, .int a2)] → GX E S H locs → fX11_out S a1 a2 = some res → W p l e rmX11_out s m args below meth c H locs 0 0 (gZ E below args s none res.2) (F0 m 0 ls []) := by
  obtain ⟨hx, hb, -, -, -, hown, hts, -, -⟩ := id hc
  intro S a1 a2 H locs ls hl hG h
  unfold fX11_out at h
  refine lv_aload_n hx hb dX11_out_0 rfl (lv_at hl 0 rfl) ?_
  refine g_getR hc hG 54 56 flX11_13 rfl rfl rfl dX11_out_1 ?_
  refine lv_bipush (v := (64 : Int32)) hx hb dX11_out_4 (by decide) ?_
  refine lv_aload_n hx hb dX11_out_6 rfl (lv_at hl 0 rfl) ?_
  refine g_getI hc hG 54 flX11_180 rfl rfl dX11_out_7 ?_
  refine lv_imul hx hb dX11_out_10 ?_
  refine lv_aload_n hx hb dX11_out_11 rfl (lv_at hl 0 rfl) ?_
  refine g_getR hc hG 54 58 flX11_19 rfl rfl rfl dX11_out_12 ?_
  refine lv_aload_n hx hb dX11_out_15 rfl (lv_at hl 0 rfl) ?_
  refine g_getI hc hG 54 flX11_180 rfl rfl dX11_out_16 ?_
  obtain ⟨hi1, h⟩ := g_if h
  refine g_iald hc hG 58 4 (((S.1 54 22)).toNatClampNeg) rfl rfl hi1 rfl dX11_out_19 ?_
  refine lv_iadd hx hb dX11_out_20 ?_
  refine lv_iload_n hx hb dX11_out_21 rfl (lv_at hl 1 rfl) ?_
  obtain ⟨hi2, h⟩ := g_if h
  refine g_iast hc hG 56 256 (((((64 : Int32) * (S.1 54 22)) + (S.1 58 ((S.1 54 22)).toNatClampNeg))).toNatClampNeg) rfl rfl hi2 rfl dX11_out_22 (fun S3 H locs eS3 hG => ?_)
  have h := g_let eS3 h
  refine lv_aload_n hx hb dX11_out_23 rfl (lv_at hl 0 rfl) ?_
  refine g_getR hc hG 54 57 flX11_16 rfl rfl rfl dX11_out_24 ?_
  refine lv_bipush (v := (64 : Int32)) hx hb dX11_out_27 (by decide) ?_
  refine lv_aload_n hx hb dX11_out_29 rfl (lv_at hl 0 rfl) ?_
  refine g_getI hc hG 54 flX11_180 rfl rfl dX11_out_30 ?_
  refine lv_imul hx hb dX11_out_33 ?_
  refine lv_aload_n hx hb dX11_out_34 rfl (lv_at hl 0 rfl) ?_
  refine g_getR hc hG 54 58 flX11_19 rfl rfl rfl dX11_out_35 ?_
  refine lv_aload_n hx hb dX11_out_38 rfl (lv_at hl 0 rfl) ?_
  refine g_getI hc hG 54 flX11_180 rfl rfl dX11_out_39 ?_
  obtain ⟨hi4, h⟩ := g_if h
  refine g_iald hc hG 58 4 (((S3.1 54 22)).toNatClampNeg) rfl rfl hi4 rfl dX11_out_42 ?_
  refine lv_iadd hx hb dX11_out_43 ?_
  refine lv_iload_n hx hb dX11_out_44 rfl (lv_at hl 2 rfl) ?_
  obtain ⟨hi5, h⟩ := g_if h
  refine g_iast hc hG 57 256 (((((64 : Int32) * (S3.1 54 22)) + (S3.1 58 ((S3.1 54 22)).toNatClampNeg))).toNatClampNeg) rfl rfl hi5 rfl dX11_out_45 (fun S6 H locs eS6 hG => ?_)
  have h := g_let eS6 h
  refine lv_aload_n hx hb dX11_out_46 rfl (lv_at hl 0 rfl) ?_
  refine g_getR hc hG 54 58 flX11_19 rfl rfl rfl dX11_out_47 ?_
  refine lv_aload_n hx hb dX11_out_50 rfl (lv_at hl 0 rfl) ?_
  refine g_getI hc hG 54 flX11_180 rfl rfl dX11_out_51 ?_
  refine lv_dup2_11 hx hb dX11_out_54 rfl rfl ?_
  obtain ⟨hi7, h⟩ := g_if h
  refine g_iald hc hG 58 4 (((S6.1 54 22)).toNatClampNeg) rfl rfl hi7 rfl dX11_out_55 ?_
  refine lv_iconst (v := (1 : Int32)) hx hb dX11_out_56 (by decide) ?_
  refine lv_iadd hx hb dX11_out_57 ?_
  refine g_iast hc hG 58 4 (((S6.1 54 22)).toNatClampNeg) rfl rfl hi7 rfl dX11_out_58 (fun S8 H locs eS8 hG => ?_)
  have h := g_let eS8 h
  exact g_vret hc hG dX11_out_59 h
theorem mX11_out (l : Launch) (E : GE) {S : GS} {a1 : Int32} {a2 : Int32} {res : (Unit × GS)} (h : fX11_out S a1 a2 = some res) : gMet l E yX11_out cX11_out 3 none rmX11_out [gR E 54, .int a1, .int a2] S none res.2 :=
  g_met (by decide) (Nat.le_of_ble_eq_true rfl) rfl fun p e s m below meth c H ls hc hG hl => wX11_out_0 hc S a1 a2 H [] ls hl hG h
abbrev rmX11_waits : Room := { frames := 6, cells := 0, slots := 0, locals := 129 }
def fX11_waits (S : GS) (a1 : Int32) : Option (Unit × GS) := (if gib (S.1 54 24) 96 = true then glet (gsi S 60 (((S.1 54 24)).toNatClampNeg) a1) fun S2 => glet (gsi S2 54 24 ((S2.1 54 24) + (1 : Int32))) fun S3 => gbd (fX11_next S3) fun r5 S6 => (some ((), S6)) else none)
set_option maxRecDepth 100000 in
set_option maxHeartbeats 4000000 in
theorem wX11_waits_0 {p : Program} {l : Launch} {e : Env} {s : State} {m : MethodId} {args : Array Value} {below : List Frame} {meth : Method} {c : Code} {E : GE} {res : (Unit × GS)} (hc : GM E p s m args meth c RX11 cX11_waits 2 none) : ∀ (S : GS) (a1 : Int32) (H : Heap) (locs : List Loc) (ls : Array Slot), lv_has ls 2 [(0, gR E 54), (1, .int a1)] → GX E S H locs → fX11_waits S a1 = some res → W p l e rmX11_waits s m args below meth c H locs 0 0 (gZ E below args s none res.2) (F0 m 0 ls []) := by
  obtain ⟨hx, hb, -, -, -, hown, hts, -, -⟩ := id hc
  intro S a1 H locs ls hl hG h
  unfold fX11_waits at h
  refine lv_aload_n hx hb dX11_waits_0 rfl (lv_at hl 0 rfl) ?_
  refine g_getR hc hG 54 60 flX11_33 rfl rfl rfl dX11_waits_1 ?_
  refine lv_aload_n hx hb dX11_waits_4 rfl (lv_at hl 0 rfl) ?_
  refine g_getI hc hG 54 flX11_195 rfl rfl dX11_waits_5 ?_
  refine lv_iload_n hx hb dX11_waits_8 rfl (lv_at hl 1 rfl) ?_
  obtain ⟨hi1, h⟩ := g_if h
  refine g_iast hc hG 60 96 (((S.1 54 24)).toNatClampNeg) rfl rfl hi1 rfl dX11_waits_9 (fun S2 H locs eS2 hG => ?_)
  have h := g_let eS2 h
  refine lv_aload_n hx hb dX11_waits_10 rfl (lv_at hl 0 rfl) ?_
  refine lv_dup hx hb dX11_waits_11 rfl ?_
  refine g_getI hc hG 54 flX11_195 rfl rfl dX11_waits_12 ?_
  refine lv_iconst (v := (1 : Int32)) hx hb dX11_waits_15 (by decide) ?_
  refine lv_iadd hx hb dX11_waits_16 ?_
  refine g_putI hc hG 54 fpX11_195 rfl rfl rfl rfl dX11_waits_17 (fun S3 H locs eS3 hG => ?_)
  have h := g_let eS3 h
  refine lv_aload_n hx hb dX11_waits_20 rfl (lv_at hl 0 rfl) ?_
  obtain ⟨r5, S6, hm4, h⟩ := g_bd h
  refine g_callVv (As := []) hc hG (mX11_next l E hm4) mlX11_174 mcX11_next miX11_next rfl rfl rfl rfl hl.1 rfl rfl ⟨by decide, by decide⟩ (Nat.le_of_ble_eq_true rfl) ⟨by decide, by decide⟩ dX11_waits_21 rfl (fun H locs hG => ?_)
  exact g_vret hc hG dX11_waits_24 h
theorem mX11_waits (l : Launch) (E : GE) {S : GS} {a1 : Int32} {res : (Unit × GS)} (h : fX11_waits S a1 = some res) : gMet l E yX11_waits cX11_waits 2 none rmX11_waits [gR E 54, .int a1] S none res.2 :=
  g_met (by decide) (Nat.le_of_ble_eq_true rfl) rfl fun p e s m below meth c H ls hc hG hl => wX11_waits_0 hc S a1 H [] ls hl hG h
abbrev rmX11_bind : Room := { frames := 0, cells := 0, slots := 0, locals := 0 }
def fX11_bind (S : GS) (a0 : Int32) : Option Int32 := (if a0 = (42 : Int32) then (some (6 : Int32)) else (if a0 = (43 : Int32) then (some (5 : Int32)) else (if a0 = (45 : Int32) then (some (5 : Int32)) else (if a0 = (47 : Int32) then (some (6 : Int32)) else (if a0 = (60 : Int32) then (some (4 : Int32)) else (if a0 = (61 : Int32) then (some (4 : Int32)) else (if a0 = (62 : Int32) then (some (4 : Int32)) else (if a0 = (256 : Int32) then (some (4 : Int32)) else (if a0 = (257 : Int32) then (some (4 : Int32)) else (if a0 = (258 : Int32) then (some (4 : Int32)) else (if a0 = (260 : Int32) then (some (3 : Int32)) else (if a0 = (261 : Int32) then (some (2 : Int32)) else (if a0 = (262 : Int32) then (some (1 : Int32)) else (some (0 : Int32)))))))))))))))
set_option maxRecDepth 100000 in
set_option maxHeartbeats 4000000 in
theorem wX11_bind_0 {p : Program} {l : Launch} {e : Env} {s : State} {m : MethodId} {args : Array Value} {below : List Frame} {meth : Method} {c : Code} {E : GE} {res : Int32} (hc : GM E p s m args meth c RX11 cX11_bind 1 (some .int)) : ∀ (S : GS) (a0 : Int32) (H : Heap) (locs : List Loc) (ls : Array Slot), lv_has ls 1 [(0, .int a0)] → GX E S H locs → fX11_bind S a0 = some res → W p l e rmX11_bind s m args below meth c H locs 0 0 (gZ E below args s (some (.int res)) S) (F0 m 0 ls []) := by
  obtain ⟨hx, hb, -, -, -, hown, hts, -, -⟩ := id hc
  intro S a0 H locs ls hl hG h
  unfold fX11_bind at h
  refine lv_iload_n hx hb dX11_bind_0 rfl (lv_at hl 0 rfl) ?_
  by_cases c1 : a0 = (42 : Int32)
  · have h := g_pos c1 h
    refine lv_lookup (off := 125) (tgt := 126) hx hb dX11_bind_1 (by decide) (by rw [c1]; decide) (by decide) ?_
    refine lv_bipush (v := (6 : Int32)) hx hb dX11_bind_126 (by decide) ?_
    exact g_iretp hc hG dX11_bind_128 h
  have h := g_neg c1 h
  by_cases c2 : a0 = (43 : Int32)
  · have h := g_pos c2 h
    refine lv_lookup (off := 123) (tgt := 124) hx hb dX11_bind_1 (by decide) (by rw [c2]; decide) (by decide) ?_
    refine lv_iconst (v := (5 : Int32)) hx hb dX11_bind_124 (by decide) ?_
    exact g_iretp hc hG dX11_bind_125 h
  have h := g_neg c2 h
  by_cases c3 : a0 = (45 : Int32)
  · have h := g_pos c3 h
    refine lv_lookup (off := 123) (tgt := 124) hx hb dX11_bind_1 (by decide) (by rw [c3]; decide) (by decide) ?_
    refine lv_iconst (v := (5 : Int32)) hx hb dX11_bind_124 (by decide) ?_
    exact g_iretp hc hG dX11_bind_125 h
  have h := g_neg c3 h
  by_cases c4 : a0 = (47 : Int32)
  · have h := g_pos c4 h
    refine lv_lookup (off := 125) (tgt := 126) hx hb dX11_bind_1 (by decide) (by rw [c4]; decide) (by decide) ?_
    refine lv_bipush (v := (6 : Int32)) hx hb dX11_bind_126 (by decide) ?_
    exact g_iretp hc hG dX11_bind_128 h
  have h := g_neg c4 h
  by_cases c5 : a0 = (60 : Int32)
  · have h := g_pos c5 h
    refine lv_lookup (off := 121) (tgt := 122) hx hb dX11_bind_1 (by decide) (by rw [c5]; decide) (by decide) ?_
    refine lv_iconst (v := (4 : Int32)) hx hb dX11_bind_122 (by decide) ?_
    exact g_iretp hc hG dX11_bind_123 h
  have h := g_neg c5 h
  by_cases c6 : a0 = (61 : Int32)
  · have h := g_pos c6 h
    refine lv_lookup (off := 121) (tgt := 122) hx hb dX11_bind_1 (by decide) (by rw [c6]; decide) (by decide) ?_
    refine lv_iconst (v := (4 : Int32)) hx hb dX11_bind_122 (by decide) ?_
    exact g_iretp hc hG dX11_bind_123 h
  have h := g_neg c6 h
  by_cases c7 : a0 = (62 : Int32)
  · have h := g_pos c7 h
    refine lv_lookup (off := 121) (tgt := 122) hx hb dX11_bind_1 (by decide) (by rw [c7]; decide) (by decide) ?_
    refine lv_iconst (v := (4 : Int32)) hx hb dX11_bind_122 (by decide) ?_
    exact g_iretp hc hG dX11_bind_123 h
  have h := g_neg c7 h
  by_cases c8 : a0 = (256 : Int32)
  · have h := g_pos c8 h
    refine lv_lookup (off := 121) (tgt := 122) hx hb dX11_bind_1 (by decide) (by rw [c8]; decide) (by decide) ?_
    refine lv_iconst (v := (4 : Int32)) hx hb dX11_bind_122 (by decide) ?_
    exact g_iretp hc hG dX11_bind_123 h
  have h := g_neg c8 h
  by_cases c9 : a0 = (257 : Int32)
  · have h := g_pos c9 h
    refine lv_lookup (off := 121) (tgt := 122) hx hb dX11_bind_1 (by decide) (by rw [c9]; decide) (by decide) ?_
    refine lv_iconst (v := (4 : Int32)) hx hb dX11_bind_122 (by decide) ?_
    exact g_iretp hc hG dX11_bind_123 h
  have h := g_neg c9 h
  by_cases c10 : a0 = (258 : Int32)
  · have h := g_pos c10 h
    refine lv_lookup (off := 121) (tgt := 122) hx hb dX11_bind_1 (by decide) (by rw [c10]; decide) (by decide) ?_
    refine lv_iconst (v := (4 : Int32)) hx hb dX11_bind_122 (by decide) ?_
    exact g_iretp hc hG dX11_bind_123 h
  have h := g_neg c10 h
  by_cases c11 : a0 = (260 : Int32)
  · have h := g_pos c11 h
    refine lv_lookup (off := 119) (tgt := 120) hx hb dX11_bind_1 (by decide) (by rw [c11]; decide) (by decide) ?_
    refine lv_iconst (v := (3 : Int32)) hx hb dX11_bind_120 (by decide) ?_
    exact g_iretp hc hG dX11_bind_121 h
  have h := g_neg c11 h
  by_cases c12 : a0 = (261 : Int32)
  · have h := g_pos c12 h
    refine lv_lookup (off := 117) (tgt := 118) hx hb dX11_bind_1 (by decide) (by rw [c12]; decide) (by decide) ?_
    refine lv_iconst (v := (2 : Int32)) hx hb dX11_bind_118 (by decide) ?_
    exact g_iretp hc hG dX11_bind_119 h
  have h := g_neg c12 h
  by_cases c13 : a0 = (262 : Int32)
  · have h := g_pos c13 h
    refine lv_lookup (off := 115) (tgt := 116) hx hb dX11_bind_1 (by decide) (by rw [c13]; decide) (by decide) ?_
    refine lv_iconst (v := (1 : Int32)) hx hb dX11_bind_116 (by decide) ?_
    exact g_iretp hc hG dX11_bind_117 h
  have h := g_neg c13 h
  have zc1 : ¬ Int32.toInt a0 = 42 := fun q => c1 (Int32.toInt_inj.mp (q.trans (by decide)))
  have zc2 : ¬ Int32.toInt a0 = 43 := fun q => c2 (Int32.toInt_inj.mp (q.trans (by decide)))
  have zc3 : ¬ Int32.toInt a0 = 45 := fun q => c3 (Int32.toInt_inj.mp (q.trans (by decide)))
  have zc4 : ¬ Int32.toInt a0 = 47 := fun q => c4 (Int32.toInt_inj.mp (q.trans (by decide)))
  have zc5 : ¬ Int32.toInt a0 = 60 := fun q => c5 (Int32.toInt_inj.mp (q.trans (by decide)))
  have zc6 : ¬ Int32.toInt a0 = 61 := fun q => c6 (Int32.toInt_inj.mp (q.trans (by decide)))
  have zc7 : ¬ Int32.toInt a0 = 62 := fun q => c7 (Int32.toInt_inj.mp (q.trans (by decide)))
  have zc8 : ¬ Int32.toInt a0 = 256 := fun q => c8 (Int32.toInt_inj.mp (q.trans (by decide)))
  have zc9 : ¬ Int32.toInt a0 = 257 := fun q => c9 (Int32.toInt_inj.mp (q.trans (by decide)))
  have zc10 : ¬ Int32.toInt a0 = 258 := fun q => c10 (Int32.toInt_inj.mp (q.trans (by decide)))
  have zc11 : ¬ Int32.toInt a0 = 260 := fun q => c11 (Int32.toInt_inj.mp (q.trans (by decide)))
  have zc12 : ¬ Int32.toInt a0 = 261 := fun q => c12 (Int32.toInt_inj.mp (q.trans (by decide)))
  have zc13 : ¬ Int32.toInt a0 = 262 := fun q => c13 (Int32.toInt_inj.mp (q.trans (by decide)))
  refine lv_lookup (off := 128) (tgt := 129) hx hb dX11_bind_1 (by decide) (by simp [Op.lookupswitch.offset, zc1, Ne.symm zc1, zc2, Ne.symm zc2, zc3, Ne.symm zc3, zc4, Ne.symm zc4, zc5, Ne.symm zc5, zc6, Ne.symm zc6, zc7, Ne.symm zc7, zc8, Ne.symm zc8, zc9, Ne.symm zc9, zc10, Ne.symm zc10, zc11, Ne.symm zc11, zc12, Ne.symm zc12, zc13, Ne.symm zc13]) (by decide) ?_
  refine lv_iconst (v := (0 : Int32)) hx hb dX11_bind_129 (by decide) ?_
  exact g_iretp hc hG dX11_bind_130 h
theorem mX11_bind (l : Launch) (E : GE) {S : GS} {a0 : Int32} {res : Int32} (h : fX11_bind S a0 = some res) : gMet l E yX11_bind cX11_bind 1 (some .int) rmX11_bind [.int a0] S (some (.int res)) S :=
  g_met (by decide) (Nat.le_of_ble_eq_true rfl) rfl fun p e s m below meth c H ls hc hG hl => wX11_bind_0 hc S a0 H [] ls hl hG h
abbrev rmX11_operand : Room := { frames := 7, cells := 0, slots := 0, locals := 150 }
def fX11_operand_34 (S : GS) : Option (Int32 × GS) := (if (S.1 54 18) = 0 then gbd (fX11_out S (0 : Int32) (S.1 54 17)) fun r3 S4 => gbd (fX11_next S4) fun r6 S7 => (some ((1 : Int32), S7)) else (some ((0 : Int32), S)))
set_option maxRecDepth 100000 in
set_option maxHeartbeats 4000000 in
theorem wX11_operand_34 {p : Program} {l : Launch} {e : Env} {s : State} {m : MethodId} {args : Array Value} {below : List Frame} {meth : Method} {c : Code} {E : GE} {res : (Int32 × GS)} (hc : GM E p s m args meth c RX11 cX11_operand 2 (some .boolean)) : ∀ (S : GS) (H : Heap) (locs : List Loc) (ls : Array Slot), lv_has ls 2 [(0, gR E 54)] → GX E S H locs → fX11_operand_34 S = some res → W p l e rmX11_operand s m args below meth c H locs 0 0 (gZ E below args s (some (.int res.1)) res.2) (F0 m 34 ls []) := by
  obtain ⟨hx, hb, -, -, -, hown, hts, -, -⟩ := id hc
  intro S H locs ls hl hG h
  unfold fX11_operand_34 at h
  refine lv_aload_n hx hb dX11_operand_34 rfl (lv_at hl 0 rfl) ?_
  refine g_getI hc hG 54 flX11_161 rfl rfl dX11_operand_35 ?_
  refine lv_if_eq (tgt := 43) hx hb dX11_operand_38 (by decide) (fun c1 => ?_) (fun c1 => ?_)
  · have h := g_pos c1 h
    refine lv_aload_n hx hb dX11_operand_43 rfl (lv_at hl 0 rfl) ?_
    refine lv_iconst (v := (0 : Int32)) hx hb dX11_operand_44 (by decide) ?_
    refine lv_aload_n hx hb dX11_operand_45 rfl (lv_at hl 0 rfl) ?_
    refine g_getI hc hG 54 flX11_144 rfl rfl dX11_operand_46 ?_
    obtain ⟨r3, S4, hm2, h⟩ := g_bd h
    refine g_callVv (As := [.int (0 : Int32), .int (S.1 54 17)]) hc hG (mX11_out l E hm2) mlX11_202 mcX11_out miX11_out rfl rfl rfl rfl hl.1 rfl rfl ⟨by decide, by decide⟩ (Nat.le_of_ble_eq_true rfl) ⟨by decide, by decide⟩ dX11_operand_49 rfl (fun H locs hG => ?_)
    refine lv_aload_n hx hb dX11_operand_52 rfl (lv_at hl 0 rfl) ?_
    obtain ⟨r6, S7, hm5, h⟩ := g_bd h
    refine g_callVv (As := []) hc hG (mX11_next l E hm5) mlX11_174 mcX11_next miX11_next rfl rfl rfl rfl hl.1 rfl rfl ⟨by decide, by decide⟩ (Nat.le_of_ble_eq_true rfl) ⟨by decide, by decide⟩ dX11_operand_53 rfl (fun H locs hG => ?_)
    refine lv_iconst (v := (1 : Int32)) hx hb dX11_operand_56 (by decide) ?_
    exact g_zret hc hG (Or.inr rfl) dX11_operand_57 h
  · have h := g_neg c1 h
    refine lv_iconst (v := (0 : Int32)) hx hb dX11_operand_41 (by decide) ?_
    exact g_zret hc hG (Or.inl rfl) dX11_operand_42 h
def fX11_operand_23 (S : GS) : Option (Int32 × GS) := (if (S.1 54 18) = 0 then gbd (fX11_knot S) fun r3 S4 => (fX11_operand_34 S4) else (fX11_operand_34 S))
set_option maxRecDepth 100000 in
set_option maxHeartbeats 4000000 in
theorem wX11_operand_23 {p : Program} {l : Launch} {e : Env} {s : State} {m : MethodId} {args : Array Value} {below : List Frame} {meth : Method} {c : Code} {E : GE} {res : (Int32 × GS)} (hc : GM E p s m args meth c RX11 cX11_operand 2 (some .boolean)) : ∀ (S : GS) (H : Heap) (locs : List Loc) (ls : Array Slot), lv_has ls 2 [(0, gR E 54)] → GX E S H locs → fX11_operand_23 S = some res → W p l e rmX11_operand s m args below meth c H locs 0 0 (gZ E below args s (some (.int res.1)) res.2) (F0 m 23 ls []) := by
  obtain ⟨hx, hb, -, -, -, hown, hts, -, -⟩ := id hc
  intro S H locs ls hl hG h
  unfold fX11_operand_23 at h
  refine lv_aload_n hx hb dX11_operand_23 rfl (lv_at hl 0 rfl) ?_
  refine g_getI hc hG 54 flX11_161 rfl rfl dX11_operand_24 ?_
  refine lv_if_ne (tgt := 34) hx hb dX11_operand_27 (by decide) (fun c1 => ?_) (fun c1 => ?_)
  · have h := g_neg c1 h
    exact wX11_operand_34 hc S _ _ _ (lv_sub hl [0] rfl) hG h
  · have h := g_pos c1 h
    refine lv_aload_n hx hb dX11_operand_30 rfl (lv_at hl 0 rfl) ?_
    obtain ⟨r3, S4, hm2, h⟩ := g_bd h
    refine g_callVv (As := []) hc hG (mX11_knot l E hm2) mlX11_222 mcX11_knot miX11_knot rfl rfl rfl rfl hl.1 rfl rfl ⟨by decide, by decide⟩ (Nat.le_of_ble_eq_true rfl) ⟨by decide, by decide⟩ dX11_operand_31 rfl (fun H locs hG => ?_)
    exact wX11_operand_34 hc S4 _ _ _ (lv_sub hl [0] rfl) hG h
def fX11_operand_128 (S : GS) : Option (Int32 × GS) := (if (S.1 54 18) = 0 then glet (gsi S 54 25 ((S.1 54 25) + (1 : Int32))) fun S2 => gbd (fX11_waits S2 (40 : Int32)) fun r4 S5 => (some ((0 : Int32), S5)) else (some ((0 : Int32), S)))
set_option maxRecDepth 100000 in
set_option maxHeartbeats 4000000 in
theorem wX11_operand_128 {p : Program} {l : Launch} {e : Env} {s : State} {m : MethodId} {args : Array Value} {below : List Frame} {meth : Method} {c : Code} {E : GE} {res : (Int32 × GS)} (hc : GM E p s m args meth c RX11 cX11_operand 2 (some .boolean)) : ∀ (S : GS) (H : Heap) (locs : List Loc) (ls : Array Slot), lv_has ls 2 [(0, gR E 54)] → GX E S H locs → fX11_operand_128 S = some res → W p l e rmX11_operand s m args below meth c H locs 0 0 (gZ E below args s (some (.int res.1)) res.2) (F0 m 128 ls []) := by
  obtain ⟨hx, hb, -, -, -, hown, hts, -, -⟩ := id hc
  intro S H locs ls hl hG h
  unfold fX11_operand_128 at h
  refine lv_aload_n hx hb dX11_operand_128 rfl (lv_at hl 0 rfl) ?_
  refine g_getI hc hG 54 flX11_161 rfl rfl dX11_operand_129 ?_
  refine lv_if_eq (tgt := 137) hx hb dX11_operand_132 (by decide) (fun c1 => ?_) (fun c1 => ?_)
  · have h := g_pos c1 h
    refine lv_aload_n hx hb dX11_operand_137 rfl (lv_at hl 0 rfl) ?_
    refine lv_dup hx hb dX11_operand_138 rfl ?_
    refine g_getI hc hG 54 flX11_206 rfl rfl dX11_operand_139 ?_
    refine lv_iconst (v := (1 : Int32)) hx hb dX11_operand_142 (by decide) ?_
    refine lv_iadd hx hb dX11_operand_143 ?_
    refine g_putI hc hG 54 fpX11_206 rfl rfl rfl rfl dX11_operand_144 (fun S2 H locs eS2 hG => ?_)
    have h := g_let eS2 h
    refine lv_aload_n hx hb dX11_operand_147 rfl (lv_at hl 0 rfl) ?_
    refine lv_bipush (v := (40 : Int32)) hx hb dX11_operand_148 (by decide) ?_
    obtain ⟨r4, S5, hm3, h⟩ := g_bd h
    refine g_callVv (As := [.int (40 : Int32)]) hc hG (mX11_waits l E hm3) mlX11_225 mcX11_waits miX11_waits rfl rfl rfl rfl hl.1 rfl rfl ⟨by decide, by decide⟩ (Nat.le_of_ble_eq_true rfl) ⟨by decide, by decide⟩ dX11_operand_150 rfl (fun H locs hG => ?_)
    refine lv_iconst (v := (0 : Int32)) hx hb dX11_operand_153 (by decide) ?_
    exact g_zret hc hG (Or.inl rfl) dX11_operand_154 h
  · have h := g_neg c1 h
    refine lv_iconst (v := (0 : Int32)) hx hb dX11_operand_135 (by decide) ?_
    exact g_zret hc hG (Or.inl rfl) dX11_operand_136 h
def fX11_operand_205 (S : GS) : Option (Int32 × GS) := gbd (fX11_wrong S (1 : Int32)) fun r2 S3 => (some ((0 : Int32), S3))
set_option maxRecDepth 100000 in
set_option maxHeartbeats 4000000 in
theorem wX11_operand_205 {p : Program} {l : Launch} {e : Env} {s : State} {m : MethodId} {args : Array Value} {below : List Frame} {meth : Method} {c : Code} {E : GE} {res : (Int32 × GS)} (hc : GM E p s m args meth c RX11 cX11_operand 2 (some .boolean)) : ∀ (S : GS) (H : Heap) (locs : List Loc) (ls : Array Slot), lv_has ls 2 [(0, gR E 54)] → GX E S H locs → fX11_operand_205 S = some res → W p l e rmX11_operand s m args below meth c H locs 0 0 (gZ E below args s (some (.int res.1)) res.2) (F0 m 205 ls []) := by
  obtain ⟨hx, hb, -, -, -, hown, hts, -, -⟩ := id hc
  intro S H locs ls hl hG h
  unfold fX11_operand_205 at h
  refine lv_aload_n hx hb dX11_operand_205 rfl (lv_at hl 0 rfl) ?_
  refine lv_iconst (v := (1 : Int32)) hx hb dX11_operand_206 (by decide) ?_
  obtain ⟨r2, S3, hm1, h⟩ := g_bd h
  refine g_callVv (As := [.int (1 : Int32)]) hc hG (mX11_wrong l E hm1) mlX11_167 mcX11_wrong miX11_wrong rfl rfl rfl rfl hl.1 rfl rfl ⟨by decide, by decide⟩ (Nat.le_of_ble_eq_true rfl) ⟨by decide, by decide⟩ dX11_operand_207 rfl (fun H locs hG => ?_)
  refine lv_iconst (v := (0 : Int32)) hx hb dX11_operand_210 (by decide) ?_
  exact g_zret hc hG (Or.inl rfl) dX11_operand_211 h
def fX11_operand_185 (S : GS) (t0 : Int32) : Option (Int32 × GS) := (if (S.1 54 16) = 0 then (if (S.1 54 17) = (5 : Int32) then (if t0 = 0 then (fX11_operand_205 S) else gbd (fX11_knot S) fun r5 S6 => (if (S6.1 54 18) = 0 then gbd (fX11_waits S6 (260 : Int32)) fun r9 S10 => (some ((0 : Int32), S10)) else (some ((0 : Int32), S6)))) else (fX11_operand_205 S)) else (fX11_operand_205 S))
set_option maxRecDepth 100000 in
set_option maxHeartbeats 4000000 in
theorem wX11_operand_185 {p : Program} {l : Launch} {e : Env} {s : State} {m : MethodId} {args : Array Value} {below : List Frame} {meth : Method} {c : Code} {E : GE} {res : (Int32 × GS)} (hc : GM E p s m args meth c RX11 cX11_operand 2 (some .boolean)) : ∀ (S : GS) (t0 : Int32) (H : Heap) (locs : List Loc) (ls : Array Slot), lv_has ls 2 [(0, gR E 54)] → GX E S H locs → fX11_operand_185 S t0 = some res → W p l e rmX11_operand s m args below meth c H locs 0 0 (gZ E below args s (some (.int res.1)) res.2) (F0 m 185 ls [.int t0]) := by
  obtain ⟨hx, hb, -, -, -, hown, hts, -, -⟩ := id hc
  intro S t0 H locs ls hl hG h
  unfold fX11_operand_185 at h
  refine lv_istore_n (lv' := [(1, .int t0), (0, gR E 54)]) hx hb dX11_operand_185 rfl hl (by decide) rfl (fun ls hl => ?_)
  refine lv_aload_n hx hb dX11_operand_186 rfl (lv_at hl 1 rfl) ?_
  refine g_getI hc hG 54 flX11_134 rfl rfl dX11_operand_187 ?_
  refine lv_if_ne (tgt := 205) hx hb dX11_operand_190 (by decide) (fun c1 => ?_) (fun c1 => ?_)
  · have h := g_neg c1 h
    exact wX11_operand_205 hc S _ _ _ (lv_sub hl [1] rfl) hG h
  · have h := g_pos c1 h
    refine lv_aload_n hx hb dX11_operand_193 rfl (lv_at hl 1 rfl) ?_
    refine g_getI hc hG 54 flX11_144 rfl rfl dX11_operand_194 ?_
    refine lv_iconst (v := (5 : Int32)) hx hb dX11_operand_197 (by decide) ?_
    refine lv_icmp_ne (tgt := 205) hx hb dX11_operand_198 (by decide) (fun c2 => ?_) (fun c2 => ?_)
    · have h := g_neg c2 h
      exact wX11_operand_205 hc S _ _ _ (lv_sub hl [1] rfl) hG h
    · have h := g_pos c2 h
      refine lv_iload_n hx hb dX11_operand_201 rfl (lv_at hl 0 rfl) ?_
      refine lv_if_ne (tgt := 212) hx hb dX11_operand_202 (by decide) (fun c3 => ?_) (fun c3 => ?_)
      · have h := g_neg c3 h
        refine lv_aload_n hx hb dX11_operand_212 rfl (lv_at hl 1 rfl) ?_
        obtain ⟨r5, S6, hm4, h⟩ := g_bd h
        refine g_callVv (As := []) hc hG (mX11_knot l E hm4) mlX11_222 mcX11_knot miX11_knot rfl rfl rfl rfl hl.1 rfl rfl ⟨by decide, by decide⟩ (Nat.le_of_ble_eq_true rfl) ⟨by decide, by decide⟩ dX11_operand_213 rfl (fun H locs hG => ?_)
        refine lv_aload_n hx hb dX11_operand_216 rfl (lv_at hl 1 rfl) ?_
        refine g_getI hc hG 54 flX11_161 rfl rfl dX11_operand_217 ?_
        refine lv_if_ne (tgt := 230) hx hb dX11_operand_220 (by decide) (fun c7 => ?_) (fun c7 => ?_)
        · have h := g_neg c7 h
          refine lv_iconst (v := (0 : Int32)) hx hb dX11_operand_230 (by decide) ?_
          exact g_zret hc hG (Or.inl rfl) dX11_operand_231 h
        · have h := g_pos c7 h
          refine lv_aload_n hx hb dX11_operand_223 rfl (lv_at hl 1 rfl) ?_
          refine lv_sipush (v := (260 : Int32)) hx hb dX11_operand_224 (by decide) ?_
          obtain ⟨r9, S10, hm8, h⟩ := g_bd h
          refine g_callVv (As := [.int (260 : Int32)]) hc hG (mX11_waits l E hm8) mlX11_225 mcX11_waits miX11_waits rfl rfl rfl rfl hl.1 rfl rfl ⟨by decide, by decide⟩ (Nat.le_of_ble_eq_true rfl) ⟨by decide, by decide⟩ dX11_operand_227 rfl (fun H locs hG => ?_)
          refine lv_iconst (v := (0 : Int32)) hx hb dX11_operand_230 (by decide) ?_
          exact g_zret hc hG (Or.inl rfl) dX11_operand_231 h
      · have h := g_pos c3 h
        exact wX11_operand_205 hc S _ _ _ (lv_sub hl [1] rfl) hG h
def fX11_operand_180 (S : GS) : Option (Int32 × GS) := (fX11_operand_185 S (1 : Int32))
set_option maxRecDepth 100000 in
set_option maxHeartbeats 4000000 in
theorem wX11_operand_180 {p : Program} {l : Launch} {e : Env} {s : State} {m : MethodId} {args : Array Value} {below : List Frame} {meth : Method} {c : Code} {E : GE} {res : (Int32 × GS)} (hc : GM E p s m args meth c RX11 cX11_operand 2 (some .boolean)) : ∀ (S : GS) (H : Heap) (locs : List Loc) (ls : Array Slot), lv_has ls 2 [(0, gR E 54)] → GX E S H locs → fX11_operand_180 S = some res → W p l e rmX11_operand s m args below meth c H locs 0 0 (gZ E below args s (some (.int res.1)) res.2) (F0 m 180 ls []) := by
  obtain ⟨hx, hb, -, -, -, hown, hts, -, -⟩ := id hc
  intro S H locs ls hl hG h
  unfold fX11_operand_180 at h
  refine lv_iconst (v := (1 : Int32)) hx hb dX11_operand_180 (by decide) ?_
  refine lv_goto (tgt := 185) hx hb dX11_operand_181 (by decide) ?_
  exact wX11_operand_185 hc S (1 : Int32) _ _ _ (lv_sub hl [0] rfl) hG h
def fX11_operand_105 (S : GS) : Option (Int32 × GS) := gbv (fX11_isSign S (40 : Int32)) fun r2 => (if r2 = 0 then (if (S.1 54 24) = 0 then (fX11_operand_180 S) else (if gib ((S.1 54 24) - (1 : Int32)) 96 = true then gbv (fX11_bind S (S.1 60 (((S.1 54 24) - (1 : Int32))).toNatClampNeg)) fun r7 => (if (4 : Int32) ≤ r7 then (fX11_operand_185 S (0 : Int32)) else (fX11_operand_180 S)) else none)) else (if (S.1 54 25) = (8 : Int32) then gbd (fX11_wrong S (2 : Int32)) fun r11 S12 => (fX11_operand_128 S12) else (fX11_operand_128 S)))
set_option maxRecDepth 100000 in
set_option maxHeartbeats 4000000 in
theorem wX11_operand_105 {p : Program} {l : Launch} {e : Env} {s : State} {m : MethodId} {args : Array Value} {below : List Frame} {meth : Method} {c : Code} {E : GE} {res : (Int32 × GS)} (hc : GM E p s m args meth c RX11 cX11_operand 2 (some .boolean)) : ∀ (S : GS) (H : Heap) (locs : List Loc) (ls : Array Slot), lv_has ls 2 [(0, gR E 54)] → GX E S H locs → fX11_operand_105 S = some res → W p l e rmX11_operand s m args below meth c H locs 0 0 (gZ E below args s (some (.int res.1)) res.2) (F0 m 105 ls []) := by
  obtain ⟨hx, hb, -, -, -, hown, hts, -, -⟩ := id hc
  intro S H locs ls hl hG h
  unfold fX11_operand_105 at h
  refine lv_aload_n hx hb dX11_operand_105 rfl (lv_at hl 0 rfl) ?_
  refine lv_bipush (v := (40 : Int32)) hx hb dX11_operand_106 (by decide) ?_
  obtain ⟨r2, hm1, h⟩ := g_bv h
  refine g_callVi (As := [.int (40 : Int32)]) hc hG (mX11_isSign l E hm1) mlX11_186 mcX11_isSign miX11_isSign rfl rfl rfl rfl hl.1 rfl rfl ⟨by decide, by decide⟩ (Nat.le_of_ble_eq_true rfl) ⟨by decide, by decide⟩ dX11_operand_108 rfl (fun H locs hG => ?_)
  refine lv_if_eq (tgt := 155) hx hb dX11_operand_111 (by decide) (fun c3 => ?_) (fun c3 => ?_)
  · have h := g_pos c3 h
    refine lv_aload_n hx hb dX11_operand_155 rfl (lv_at hl 0 rfl) ?_
    refine g_getI hc hG 54 flX11_195 rfl rfl dX11_operand_156 ?_
    refine lv_if_eq (tgt := 180) hx hb dX11_operand_159 (by decide) (fun c4 => ?_) (fun c4 => ?_)
    · have h := g_pos c4 h
      exact wX11_operand_180 hc S _ _ _ (lv_sub hl [0] rfl) hG h
    · have h := g_neg c4 h
      refine lv_aload_n hx hb dX11_operand_162 rfl (lv_at hl 0 rfl) ?_
      refine g_getR hc hG 54 60 flX11_33 rfl rfl rfl dX11_operand_163 ?_
      refine lv_aload_n hx hb dX11_operand_166 rfl (lv_at hl 0 rfl) ?_
      refine g_getI hc hG 54 flX11_195 rfl rfl dX11_operand_167 ?_
      refine lv_iconst (v := (1 : Int32)) hx hb dX11_operand_170 (by decide) ?_
      refine lv_isub hx hb dX11_operand_171 ?_
      obtain ⟨hi5, h⟩ := g_if h
      refine g_iald hc hG 60 96 ((((S.1 54 24) - (1 : Int32))).toNatClampNeg) rfl rfl hi5 rfl dX11_operand_172 ?_
      obtain ⟨r7, hm6, h⟩ := g_bv h
      refine g_callSi (As := [.int (S.1 60 (((S.1 54 24) - (1 : Int32))).toNatClampNeg)]) hc hG (mX11_bind l E hm6) mlX11_198 mcX11_bind msX11_bind rfl hl.1 rfl rfl ⟨by decide, by decide⟩ (Nat.le_of_ble_eq_true rfl) ⟨by decide, by decide⟩ dX11_operand_173 rfl (fun H locs hG => ?_)
      refine lv_iconst (v := (4 : Int32)) hx hb dX11_operand_176 (by decide) ?_
      refine lv_icmp_ge (tgt := 184) hx hb dX11_operand_177 (by decide) (fun c8 => ?_) (fun c8 => ?_)
      · have h := g_pos c8 h
        refine lv_iconst (v := (0 : Int32)) hx hb dX11_operand_184 (by decide) ?_
        exact wX11_operand_185 hc S (0 : Int32) _ _ _ (lv_sub hl [0] rfl) hG h
      · have h := g_neg c8 h
        exact wX11_operand_180 hc S _ _ _ (lv_sub hl [0] rfl) hG h
  · have h := g_neg c3 h
    refine lv_aload_n hx hb dX11_operand_114 rfl (lv_at hl 0 rfl) ?_
    refine g_getI hc hG 54 flX11_206 rfl rfl dX11_operand_115 ?_
    refine lv_bipush (v := (8 : Int32)) hx hb dX11_operand_118 (by decide) ?_
    refine lv_icmp_ne (tgt := 128) hx hb dX11_operand_120 (by decide) (fun c9 => ?_) (fun c9 => ?_)
    · have h := g_neg c9 h
      exact wX11_operand_128 hc S _ _ _ (lv_sub hl [0] rfl) hG h
    · have h := g_pos c9 h
      refine lv_aload_n hx hb dX11_operand_123 rfl (lv_at hl 0 rfl) ?_
      refine lv_iconst (v := (2 : Int32)) hx hb dX11_operand_124 (by decide) ?_
      obtain ⟨r11, S12, hm10, h⟩ := g_bd h
      refine g_callVv (As := [.int (2 : Int32)]) hc hG (mX11_wrong l E hm10) mlX11_167 mcX11_wrong miX11_wrong rfl rfl rfl rfl hl.1 rfl rfl ⟨by decide, by decide⟩ (Nat.le_of_ble_eq_true rfl) ⟨by decide, by decide⟩ dX11_operand_125 rfl (fun H locs hG => ?_)
      exact wX11_operand_128 hc S12 _ _ _ (lv_sub hl [0] rfl) hG h
def fX11_operand (S : GS) : Option (Int32 × GS) := (if (S.1 54 16) = (1 : Int32) then (if (S.1 54 17) ≤ (9999 : Int32) then (fX11_operand_23 S) else gbd (fX11_wrong S (2 : Int32)) fun r16 S17 => (fX11_operand_23 S17)) else (if (S.1 54 16) = 0 then (if (S.1 54 17) < (6 : Int32) then (fX11_operand_105 S) else gbd (fX11_knot S) fun r5 S6 => (if (S6.1 54 18) = 0 then gbd (fX11_out S6 (1 : Int32) ((S6.1 54 17) - (6 : Int32))) fun r9 S10 => gbd (fX11_next S10) fun r12 S13 => (some ((1 : Int32), S13)) else (some ((0 : Int32), S6)))) else (fX11_operand_105 S)))
set_option maxRecDepth 100000 in
set_option maxHeartbeats 4000000 in
theorem wX11_operand_0 {p : Program} {l : Launch} {e : Env} {s : State} {m : MethodId} {args : Array Value} {below : List Frame} {meth : Method} {c : Code} {E : GE} {res : (Int32 × GS)} (hc : GM E p s m args meth c RX11 cX11_operand 2 (some .boolean)) : ∀ (S : GS) (H : Heap) (locs : List Loc) (ls : Array Slot), lv_has ls 2 [(0, gR E 54)] → GX E S H locs → fX11_operand S = some res → W p l e rmX11_operand s m args below meth c H locs 0 0 (gZ E below args s (some (.int res.1)) res.2) (F0 m 0 ls []) := by
  obtain ⟨hx, hb, -, -, -, hown, hts, -, -⟩ := id hc
  intro S H locs ls hl hG h
  unfold fX11_operand at h
  refine lv_aload_n hx hb dX11_operand_0 rfl (lv_at hl 0 rfl) ?_
  refine g_getI hc hG 54 flX11_134 rfl rfl dX11_operand_1 ?_
  refine lv_iconst (v := (1 : Int32)) hx hb dX11_operand_4 (by decide) ?_
  refine lv_icmp_ne (tgt := 58) hx hb dX11_operand_5 (by decide) (fun c1 => ?_) (fun c1 => ?_)
  · have h := g_neg c1 h
    refine lv_aload_n hx hb dX11_operand_58 rfl (lv_at hl 0 rfl) ?_
    refine g_getI hc hG 54 flX11_134 rfl rfl dX11_operand_59 ?_
    refine lv_if_ne (tgt := 105) hx hb dX11_operand_62 (by decide) (fun c2 => ?_) (fun c2 => ?_)
    · have h := g_neg c2 h
      exact wX11_operand_105 hc S _ _ _ (lv_sub hl [0] rfl) hG h
    · have h := g_pos c2 h
      refine lv_aload_n hx hb dX11_operand_65 rfl (lv_at hl 0 rfl) ?_
      refine g_getI hc hG 54 flX11_144 rfl rfl dX11_operand_66 ?_
      refine lv_bipush (v := (6 : Int32)) hx hb dX11_operand_69 (by decide) ?_
      refine lv_icmp_lt (tgt := 105) hx hb dX11_operand_71 (by decide) (fun c3 => ?_) (fun c3 => ?_)
      · have h := g_pos c3 h
        exact wX11_operand_105 hc S _ _ _ (lv_sub hl [0] rfl) hG h
      · have h := g_neg c3 h
        refine lv_aload_n hx hb dX11_operand_74 rfl (lv_at hl 0 rfl) ?_
        obtain ⟨r5, S6, hm4, h⟩ := g_bd h
        refine g_callVv (As := []) hc hG (mX11_knot l E hm4) mlX11_222 mcX11_knot miX11_knot rfl rfl rfl rfl hl.1 rfl rfl ⟨by decide, by decide⟩ (Nat.le_of_ble_eq_true rfl) ⟨by decide, by decide⟩ dX11_operand_75 rfl (fun H locs hG => ?_)
        refine lv_aload_n hx hb dX11_operand_78 rfl (lv_at hl 0 rfl) ?_
        refine g_getI hc hG 54 flX11_161 rfl rfl dX11_operand_79 ?_
        refine lv_if_eq (tgt := 87) hx hb dX11_operand_82 (by decide) (fun c7 => ?_) (fun c7 => ?_)
        · have h := g_pos c7 h
          refine lv_aload_n hx hb dX11_operand_87 rfl (lv_at hl 0 rfl) ?_
          refine lv_iconst (v := (1 : Int32)) hx hb dX11_operand_88 (by decide) ?_
          refine lv_aload_n hx hb dX11_operand_89 rfl (lv_at hl 0 rfl) ?_
          refine g_getI hc hG 54 flX11_144 rfl rfl dX11_operand_90 ?_
          refine lv_bipush (v := (6 : Int32)) hx hb dX11_operand_93 (by decide) ?_
          refine lv_isub hx hb dX11_operand_95 ?_
          obtain ⟨r9, S10, hm8, h⟩ := g_bd h
          refine g_callVv (As := [.int (1 : Int32), .int ((S6.1 54 17) - (6 : Int32))]) hc hG (mX11_out l E hm8) mlX11_202 mcX11_out miX11_out rfl rfl rfl rfl hl.1 rfl rfl ⟨by decide, by decide⟩ (Nat.le_of_ble_eq_true rfl) ⟨by decide, by decide⟩ dX11_operand_96 rfl (fun H locs hG => ?_)
          refine lv_aload_n hx hb dX11_operand_99 rfl (lv_at hl 0 rfl) ?_
          obtain ⟨r12, S13, hm11, h⟩ := g_bd h
          refine g_callVv (As := []) hc hG (mX11_next l E hm11) mlX11_174 mcX11_next miX11_next rfl rfl rfl rfl hl.1 rfl rfl ⟨by decide, by decide⟩ (Nat.le_of_ble_eq_true rfl) ⟨by decide, by decide⟩ dX11_operand_100 rfl (fun H locs hG => ?_)
          refine lv_iconst (v := (1 : Int32)) hx hb dX11_operand_103 (by decide) ?_
          exact g_zret hc hG (Or.inr rfl) dX11_operand_104 h
        · have h := g_neg c7 h
          refine lv_iconst (v := (0 : Int32)) hx hb dX11_operand_85 (by decide) ?_
          exact g_zret hc hG (Or.inl rfl) dX11_operand_86 h
  · have h := g_pos c1 h
    refine lv_aload_n hx hb dX11_operand_8 rfl (lv_at hl 0 rfl) ?_
    refine g_getI hc hG 54 flX11_144 rfl rfl dX11_operand_9 ?_
    refine lv_sipush (v := (9999 : Int32)) hx hb dX11_operand_12 (by decide) ?_
    refine lv_icmp_le (tgt := 23) hx hb dX11_operand_15 (by decide) (fun c14 => ?_) (fun c14 => ?_)
    · have h := g_pos c14 h
      exact wX11_operand_23 hc S _ _ _ (lv_sub hl [0] rfl) hG h
    · have h := g_neg c14 h
      refine lv_aload_n hx hb dX11_operand_18 rfl (lv_at hl 0 rfl) ?_
      refine lv_iconst (v := (2 : Int32)) hx hb dX11_operand_19 (by decide) ?_
      obtain ⟨r16, S17, hm15, h⟩ := g_bd h
      refine g_callVv (As := [.int (2 : Int32)]) hc hG (mX11_wrong l E hm15) mlX11_167 mcX11_wrong miX11_wrong rfl rfl rfl rfl hl.1 rfl rfl ⟨by decide, by decide⟩ (Nat.le_of_ble_eq_true rfl) ⟨by decide, by decide⟩ dX11_operand_20 rfl (fun H locs hG => ?_)
      exact wX11_operand_23 hc S17 _ _ _ (lv_sub hl [0] rfl) hG h
theorem mX11_operand (l : Launch) (E : GE) {S : GS} {res : (Int32 × GS)} (h : fX11_operand S = some res) : gMet l E yX11_operand cX11_operand 2 (some .boolean) rmX11_operand [gR E 54] S (some (.int res.1)) res.2 :=
  g_met (by decide) (Nat.le_of_ble_eq_true rfl) rfl fun p e s m below meth c H ls hc hG hl => wX11_operand_0 hc S H [] ls hl hG h
abbrev rmX11_between : Room := { frames := 1, cells := 0, slots := 0, locals := 20 }
def fX11_between (S : GS) : Option Int32 := (if (S.1 54 16) = 0 then (if (S.1 54 17) = (3 : Int32) then (some (262 : Int32)) else (if (S.1 54 17) = (4 : Int32) then (some (261 : Int32)) else (some (0 : Int32)))) else (if (S.1 54 16) = (2 : Int32) then (if (S.1 54 17) = (40 : Int32) then (some (0 : Int32)) else (if (S.1 54 17) = (41 : Int32) then (some (0 : Int32)) else gbv (fX11_bind S (S.1 54 17)) fun r6 => (if r6 ≤ 0 then (some (0 : Int32)) else (some (S.1 54 17))))) else (some (0 : Int32))))
set_option maxRecDepth 100000 in
set_option maxHeartbeats 4000000 in
theorem wX11_between_0 {p : Program} {l : Launch} {e : Env} {s : State} {m : MethodId} {args : Array Value} {below : List Frame} {meth : Method} {c : Code} {E : GE} {res : Int32} (hc : GM E p s m args meth c RX11 cX11_between 1 (some .int)) : ∀ (S : GS) (H : Heap) (locs : List Loc) (ls : Array Slot), lv_has ls 1 [(0, gR E 54)] → GX E S H locs → fX11_between S = some res → W p l e rmX11_between s m args below meth c H locs 0 0 (gZ E below args s (some (.int res)) S) (F0 m 0 ls []) := by
  obtain ⟨hx, hb, -, -, -, hown, hts, -, -⟩ := id hc
  intro S H locs ls hl hG h
  unfold fX11_between at h
  refine lv_aload_n hx hb dX11_between_0 rfl (lv_at hl 0 rfl) ?_
  refine g_getI hc hG 54 flX11_134 rfl rfl dX11_between_1 ?_
  refine lv_if_ne (tgt := 37) hx hb dX11_between_4 (by decide) (fun c1 => ?_) (fun c1 => ?_)
  · have h := g_neg c1 h
    refine lv_aload_n hx hb dX11_between_37 rfl (lv_at hl 0 rfl) ?_
    refine g_getI hc hG 54 flX11_134 rfl rfl dX11_between_38 ?_
    refine lv_iconst (v := (2 : Int32)) hx hb dX11_between_41 (by decide) ?_
    refine lv_icmp_ne (tgt := 80) hx hb dX11_between_42 (by decide) (fun c2 => ?_) (fun c2 => ?_)
    · have h := g_neg c2 h
      refine lv_iconst (v := (0 : Int32)) hx hb dX11_between_80 (by decide) ?_
      exact g_iretp hc hG dX11_between_81 h
    · have h := g_pos c2 h
      refine lv_aload_n hx hb dX11_between_45 rfl (lv_at hl 0 rfl) ?_
      refine g_getI hc hG 54 flX11_144 rfl rfl dX11_between_46 ?_
      refine lv_bipush (v := (40 : Int32)) hx hb dX11_between_49 (by decide) ?_
      refine lv_icmp_eq (tgt := 80) hx hb dX11_between_51 (by decide) (fun c3 => ?_) (fun c3 => ?_)
      · have h := g_pos c3 h
        refine lv_iconst (v := (0 : Int32)) hx hb dX11_between_80 (by decide) ?_
        exact g_iretp hc hG dX11_between_81 h
      · have h := g_neg c3 h
        refine lv_aload_n hx hb dX11_between_54 rfl (lv_at hl 0 rfl) ?_
        refine g_getI hc hG 54 flX11_144 rfl rfl dX11_between_55 ?_
        refine lv_bipush (v := (41 : Int32)) hx hb dX11_between_58 (by decide) ?_
        refine lv_icmp_eq (tgt := 80) hx hb dX11_between_60 (by decide) (fun c4 => ?_) (fun c4 => ?_)
        · have h := g_pos c4 h
          refine lv_iconst (v := (0 : Int32)) hx hb dX11_between_80 (by decide) ?_
          exact g_iretp hc hG dX11_between_81 h
        · have h := g_neg c4 h
          refine lv_aload_n hx hb dX11_between_63 rfl (lv_at hl 0 rfl) ?_
          refine g_getI hc hG 54 flX11_144 rfl rfl dX11_between_64 ?_
          obtain ⟨r6, hm5, h⟩ := g_bv h
          refine g_callSi (As := [.int (S.1 54 17)]) hc hG (mX11_bind l E hm5) mlX11_198 mcX11_bind msX11_bind rfl hl.1 rfl rfl ⟨by decide, by decide⟩ (Nat.le_of_ble_eq_true rfl) ⟨by decide, by decide⟩ dX11_between_67 rfl (fun H locs hG => ?_)
          refine lv_if_le (tgt := 80) hx hb dX11_between_70 (by decide) (fun c7 => ?_) (fun c7 => ?_)
          · have h := g_pos c7 h
            refine lv_iconst (v := (0 : Int32)) hx hb dX11_between_80 (by decide) ?_
            exact g_iretp hc hG dX11_between_81 h
          · have h := g_neg c7 h
            refine lv_aload_n hx hb dX11_between_73 rfl (lv_at hl 0 rfl) ?_
            refine g_getI hc hG 54 flX11_144 rfl rfl dX11_between_74 ?_
            refine lv_goto (tgt := 81) hx hb dX11_between_77 (by decide) ?_
            exact g_iretp hc hG dX11_between_81 h
  · have h := g_pos c1 h
    refine lv_aload_n hx hb dX11_between_7 rfl (lv_at hl 0 rfl) ?_
    refine g_getI hc hG 54 flX11_144 rfl rfl dX11_between_8 ?_
    refine lv_iconst (v := (3 : Int32)) hx hb dX11_between_11 (by decide) ?_
    refine lv_icmp_ne (tgt := 21) hx hb dX11_between_12 (by decide) (fun c8 => ?_) (fun c8 => ?_)
    · have h := g_neg c8 h
      refine lv_aload_n hx hb dX11_between_21 rfl (lv_at hl 0 rfl) ?_
      refine g_getI hc hG 54 flX11_144 rfl rfl dX11_between_22 ?_
      refine lv_iconst (v := (4 : Int32)) hx hb dX11_between_25 (by decide) ?_
      refine lv_icmp_ne (tgt := 35) hx hb dX11_between_26 (by decide) (fun c9 => ?_) (fun c9 => ?_)
      · have h := g_neg c9 h
        refine lv_iconst (v := (0 : Int32)) hx hb dX11_between_35 (by decide) ?_
        exact g_iretp hc hG dX11_between_36 h
      · have h := g_pos c9 h
        refine lv_sipush (v := (261 : Int32)) hx hb dX11_between_29 (by decide) ?_
        refine lv_goto (tgt := 36) hx hb dX11_between_32 (by decide) ?_
        exact g_iretp hc hG dX11_between_36 h
    · have h := g_pos c8 h
      refine lv_sipush (v := (262 : Int32)) hx hb dX11_between_15 (by decide) ?_
      refine lv_goto (tgt := 36) hx hb dX11_between_18 (by decide) ?_
      exact g_iretp hc hG dX11_between_36 h
theorem mX11_between (l : Launch) (E : GE) {S : GS} {res : Int32} (h : fX11_between S = some res) : gMet l E yX11_between cX11_between 1 (some .int) rmX11_between [gR E 54] S (some (.int res)) S :=
  g_met (by decide) (Nat.le_of_ble_eq_true rfl) rfl fun p e s m below meth c H ls hc hG hl => wX11_between_0 hc S H [] ls hl hG h
abbrev rmX11_pour : Room := { frames := 1, cells := 0, slots := 0, locals := 22 }
def fX11_pour_0 : Nat → GS → Int32 → Option (Unit × GS)
  | 0, _, _ => none
  | n + 1, S, a1 => (if (S.1 54 24) ≤ 0 then (some ((), S)) else (if gib ((S.1 54 24) - (1 : Int32)) 96 = true then gbv (fX11_bind S (S.1 60 (((S.1 54 24) - (1 : Int32))).toNatClampNeg)) fun r4 => (if r4 < a1 then (some ((), S)) else glet (gsi S 54 24 ((S.1 54 24) - (1 : Int32))) fun S6 => (if gib (S6.1 54 24) 96 = true then gbd (fX11_out S6 (2 : Int32) (S6.1 60 ((S6.1 54 24)).toNatClampNeg)) fun r9 S10 => (fX11_pour_0 n S10 a1) else none)) else none))
set_option maxRecDepth 100000 in
set_option maxHeartbeats 4000000 in
theorem wX11_pour_0 {p : Program} {l : Launch} {e : Env} {s : State} {m : MethodId} {args : Array Value} {below : List Frame} {meth : Method} {c : Code} {E : GE} {res : (Unit × GS)} (hc : GM E p s m args meth c RX11 cX11_pour 2 none) : ∀ (n : Nat), ∀ (S : GS) (a1 : Int32) (H : Heap) (locs : List Loc) (ls : Array Slot), lv_has ls 2 [(0, gR E 54), (1, .int a1)] → GX E S H locs → fX11_pour_0 n S a1 = some res → W p l e rmX11_pour s m args below meth c H locs 0 0 (gZ E below args s none res.2) (F0 m 0 ls []) := by
  obtain ⟨hx, hb, -, -, -, hown, hts, -, -⟩ := id hc
  intro n
  induction n with
  | zero => intro S a1 H locs ls hl hG h; cases h
  | succ n ih =>
    intro S a1 H locs ls hl hG h
    rw [fX11_pour_0] at h
    refine lv_aload_n hx hb dX11_pour_0 rfl (lv_at hl 0 rfl) ?_
    refine g_getI hc hG 54 flX11_195 rfl rfl dX11_pour_1 ?_
    refine lv_if_le (tgt := 52) hx hb dX11_pour_4 (by decide) (fun c1 => ?_) (fun c1 => ?_)
    · have h := g_pos c1 h
      exact g_vret hc hG dX11_pour_52 h
    · have h := g_neg c1 h
      refine lv_aload_n hx hb dX11_pour_7 rfl (lv_at hl 0 rfl) ?_
      refine g_getR hc hG 54 60 flX11_33 rfl rfl rfl dX11_pour_8 ?_
      refine lv_aload_n hx hb dX11_pour_11 rfl (lv_at hl 0 rfl) ?_
      refine g_getI hc hG 54 flX11_195 rfl rfl dX11_pour_12 ?_
      refine lv_iconst (v := (1 : Int32)) hx hb dX11_pour_15 (by decide) ?_
      refine lv_isub hx hb dX11_pour_16 ?_
      obtain ⟨hi2, h⟩ := g_if h
      refine g_iald hc hG 60 96 ((((S.1 54 24) - (1 : Int32))).toNatClampNeg) rfl rfl hi2 rfl dX11_pour_17 ?_
      obtain ⟨r4, hm3, h⟩ := g_bv h
      refine g_callSi (As := [.int (S.1 60 (((S.1 54 24) - (1 : Int32))).toNatClampNeg)]) hc hG (mX11_bind l E hm3) mlX11_198 mcX11_bind msX11_bind rfl hl.1 rfl rfl ⟨by decide, by decide⟩ (Nat.le_of_ble_eq_true rfl) ⟨by decide, by decide⟩ dX11_pour_18 rfl (fun H locs hG => ?_)
      refine lv_iload_n hx hb dX11_pour_21 rfl (lv_at hl 1 rfl) ?_
      refine lv_icmp_lt (tgt := 52) hx hb dX11_pour_22 (by decide) (fun c5 => ?_) (fun c5 => ?_)
      · have h := g_pos c5 h
        exact g_vret hc hG dX11_pour_52 h
      · have h := g_neg c5 h
        refine lv_aload_n hx hb dX11_pour_25 rfl (lv_at hl 0 rfl) ?_
        refine lv_dup hx hb dX11_pour_26 rfl ?_
        refine g_getI hc hG 54 flX11_195 rfl rfl dX11_pour_27 ?_
        refine lv_iconst (v := (1 : Int32)) hx hb dX11_pour_30 (by decide) ?_
        refine lv_isub hx hb dX11_pour_31 ?_
        refine g_putI hc hG 54 fpX11_195 rfl rfl rfl rfl dX11_pour_32 (fun S6 H locs eS6 hG => ?_)
        have h := g_let eS6 h
        refine lv_aload_n hx hb dX11_pour_35 rfl (lv_at hl 0 rfl) ?_
        refine lv_iconst (v := (2 : Int32)) hx hb dX11_pour_36 (by decide) ?_
        refine lv_aload_n hx hb dX11_pour_37 rfl (lv_at hl 0 rfl) ?_
        refine g_getR hc hG 54 60 flX11_33 rfl rfl rfl dX11_pour_38 ?_
        refine lv_aload_n hx hb dX11_pour_41 rfl (lv_at hl 0 rfl) ?_
        refine g_getI hc hG 54 flX11_195 rfl rfl dX11_pour_42 ?_
        obtain ⟨hi7, h⟩ := g_if h
        refine g_iald hc hG 60 96 (((S6.1 54 24)).toNatClampNeg) rfl rfl hi7 rfl dX11_pour_45 ?_
        obtain ⟨r9, S10, hm8, h⟩ := g_bd h
        refine g_callVv (As := [.int (2 : Int32), .int (S6.1 60 ((S6.1 54 24)).toNatClampNeg)]) hc hG (mX11_out l E hm8) mlX11_202 mcX11_out miX11_out rfl rfl rfl rfl hl.1 rfl rfl ⟨by decide, by decide⟩ (Nat.le_of_ble_eq_true rfl) ⟨by decide, by decide⟩ dX11_pour_46 rfl (fun H locs hG => ?_)
        refine lv_goto (tgt := 0) hx hb dX11_pour_49 (by decide) ?_
        exact ih S10 a1 _ _ _ (lv_sub hl [0, 1] rfl) hG h
def fX11_pour (S : GS) (a1 : Int32) : Option (Unit × GS) := fX11_pour_0 FU S a1
theorem mX11_pour (l : Launch) (E : GE) {S : GS} {a1 : Int32} {res : (Unit × GS)} (h : fX11_pour S a1 = some res) : gMet l E yX11_pour cX11_pour 2 none rmX11_pour [gR E 54, .int a1] S none res.2 :=
  g_met (by decide) (Nat.le_of_ble_eq_true rfl) rfl fun p e s m below meth c H ls hc hG hl => wX11_pour_0 hc FU S a1 H [] ls hl hG h
abbrev rmX11_sign : Room := { frames := 7, cells := 0, slots := 0, locals := 150 }
def fX11_sign_65 (S : GS) (a1 : Int32) : Option (Unit × GS) := (if (S.1 54 18) = 0 then gbd (fX11_waits S a1) fun r3 S4 => (some ((), S4)) else (some ((), S)))
set_option maxRecDepth 100000 in
set_option maxHeartbeats 4000000 in
theorem wX11_sign_65 {p : Program} {l : Launch} {e : Env} {s : State} {m : MethodId} {args : Array Value} {below : List Frame} {meth : Method} {c : Code} {E : GE} {res : (Unit × GS)} (hc : GM E p s m args meth c RX11 cX11_sign 2 none) : ∀ (S : GS) (a1 : Int32) (H : Heap) (locs : List Loc) (ls : Array Slot), lv_has ls 2 [(0, gR E 54), (1, .int a1)] → GX E S H locs → fX11_sign_65 S a1 = some res → W p l e rmX11_sign s m args below meth c H locs 0 0 (gZ E below args s none res.2) (F0 m 65 ls []) := by
  obtain ⟨hx, hb, -, -, -, hown, hts, -, -⟩ := id hc
  intro S a1 H locs ls hl hG h
  unfold fX11_sign_65 at h
  refine lv_aload_n hx hb dX11_sign_65 rfl (lv_at hl 0 rfl) ?_
  refine g_getI hc hG 54 flX11_161 rfl rfl dX11_sign_66 ?_
  refine lv_if_ne (tgt := 77) hx hb dX11_sign_69 (by decide) (fun c1 => ?_) (fun c1 => ?_)
  · have h := g_neg c1 h
    exact g_vret hc hG dX11_sign_77 h
  · have h := g_pos c1 h
    refine lv_aload_n hx hb dX11_sign_72 rfl (lv_at hl 0 rfl) ?_
    refine lv_iload_n hx hb dX11_sign_73 rfl (lv_at hl 1 rfl) ?_
    obtain ⟨r3, S4, hm2, h⟩ := g_bd h
    refine g_callVv (As := [.int a1]) hc hG (mX11_waits l E hm2) mlX11_225 mcX11_waits miX11_waits rfl rfl rfl rfl hl.1 rfl rfl ⟨by decide, by decide⟩ (Nat.le_of_ble_eq_true rfl) ⟨by decide, by decide⟩ dX11_sign_74 rfl (fun H locs hG => ?_)
    exact g_vret hc hG dX11_sign_77 h
def fX11_sign_54 (S : GS) (a1 : Int32) : Option (Unit × GS) := (if (S.1 54 18) = 0 then gbd (fX11_knot S) fun r3 S4 => (fX11_sign_65 S4 a1) else (fX11_sign_65 S a1))
set_option maxRecDepth 100000 in
set_option maxHeartbeats 4000000 in
theorem wX11_sign_54 {p : Program} {l : Launch} {e : Env} {s : State} {m : MethodId} {args : Array Value} {below : List Frame} {meth : Method} {c : Code} {E : GE} {res : (Unit × GS)} (hc : GM E p s m args meth c RX11 cX11_sign 2 none) : ∀ (S : GS) (a1 : Int32) (H : Heap) (locs : List Loc) (ls : Array Slot), lv_has ls 2 [(0, gR E 54), (1, .int a1)] → GX E S H locs → fX11_sign_54 S a1 = some res → W p l e rmX11_sign s m args below meth c H locs 0 0 (gZ E below args s none res.2) (F0 m 54 ls []) := by
  obtain ⟨hx, hb, -, -, -, hown, hts, -, -⟩ := id hc
  intro S a1 H locs ls hl hG h
  unfold fX11_sign_54 at h
  refine lv_aload_n hx hb dX11_sign_54 rfl (lv_at hl 0 rfl) ?_
  refine g_getI hc hG 54 flX11_161 rfl rfl dX11_sign_55 ?_
  refine lv_if_ne (tgt := 65) hx hb dX11_sign_58 (by decide) (fun c1 => ?_) (fun c1 => ?_)
  · have h := g_neg c1 h
    exact wX11_sign_65 hc S a1 _ _ _ (lv_sub hl [0, 1] rfl) hG h
  · have h := g_pos c1 h
    refine lv_aload_n hx hb dX11_sign_61 rfl (lv_at hl 0 rfl) ?_
    obtain ⟨r3, S4, hm2, h⟩ := g_bd h
    refine g_callVv (As := []) hc hG (mX11_knot l E hm2) mlX11_222 mcX11_knot miX11_knot rfl rfl rfl rfl hl.1 rfl rfl ⟨by decide, by decide⟩ (Nat.le_of_ble_eq_true rfl) ⟨by decide, by decide⟩ dX11_sign_62 rfl (fun H locs hG => ?_)
    exact wX11_sign_65 hc S4 a1 _ _ _ (lv_sub hl [0, 1] rfl) hG h
def fX11_sign (S : GS) (a1 : Int32) : Option (Unit × GS) := gbv (fX11_bind S a1) fun r2 => (if r2 = (4 : Int32) then gbd (fX11_pour S (5 : Int32)) fun r10 S11 => (if (S11.1 54 24) ≤ 0 then (fX11_sign_54 S11 a1) else (if gib ((S11.1 54 24) - (1 : Int32)) 96 = true then gbv (fX11_bind S11 (S11.1 60 (((S11.1 54 24) - (1 : Int32))).toNatClampNeg)) fun r15 => (if r15 = (4 : Int32) then gbd (fX11_wrong S11 (1 : Int32)) fun r18 S19 => (fX11_sign_54 S19 a1) else (fX11_sign_54 S11 a1)) else none)) else gbv (fX11_bind S a1) fun r5 => gbd (fX11_pour S r5) fun r7 S8 => (fX11_sign_54 S8 a1))
set_option maxRecDepth 100000 in
set_option maxHeartbeats 4000000 in
theorem wX11_sign_0 {p : Program} {l : Launch} {e : Env} {s : State} {m : MethodId} {args : Array Value} {below : List Frame} {meth : Method} {c : Code} {E : GE} {res : (Unit × GS)} (hc : GM E p s m args meth c RX11 cX11_sign 2 none) : ∀ (S : GS) (a1 : Int32) (H : Heap) (locs : List Loc) (ls : Array Slot), lv_has ls 2 [(0, gR E 54), (1, .int a1)] → GX E S H locs → fX11_sign S a1 = some res → W p l e rmX11_sign s m args below meth c H locs 0 0 (gZ E below args s none res.2) (F0 m 0 ls []) := by
  obtain ⟨hx, hb, -, -, -, hown, hts, -, -⟩ := id hc
  intro S a1 H locs ls hl hG h
  unfold fX11_sign at h
  refine lv_iload_n hx hb dX11_sign_0 rfl (lv_at hl 1 rfl) ?_
  obtain ⟨r2, hm1, h⟩ := g_bv h
  refine g_callSi (As := [.int a1]) hc hG (mX11_bind l E hm1) mlX11_198 mcX11_bind msX11_bind rfl hl.1 rfl rfl ⟨by decide, by decide⟩ (Nat.le_of_ble_eq_true rfl) ⟨by decide, by decide⟩ dX11_sign_1 rfl (fun H locs hG => ?_)
  refine lv_iconst (v := (4 : Int32)) hx hb dX11_sign_4 (by decide) ?_
  refine lv_icmp_ne (tgt := 46) hx hb dX11_sign_5 (by decide) (fun c3 => ?_) (fun c3 => ?_)
  · have h := g_neg c3 h
    refine lv_aload_n hx hb dX11_sign_46 rfl (lv_at hl 0 rfl) ?_
    refine lv_iload_n hx hb dX11_sign_47 rfl (lv_at hl 1 rfl) ?_
    obtain ⟨r5, hm4, h⟩ := g_bv h
    refine g_callSi (As := [.int a1]) hc hG (mX11_bind l E hm4) mlX11_198 mcX11_bind msX11_bind rfl hl.1 rfl rfl ⟨by decide, by decide⟩ (Nat.le_of_ble_eq_true rfl) ⟨by decide, by decide⟩ dX11_sign_48 rfl (fun H locs hG => ?_)
    obtain ⟨r7, S8, hm6, h⟩ := g_bd h
    refine g_callVv (As := [.int r5]) hc hG (mX11_pour l E hm6) mlX11_219 mcX11_pour miX11_pour rfl rfl rfl rfl hl.1 rfl rfl ⟨by decide, by decide⟩ (Nat.le_of_ble_eq_true rfl) ⟨by decide, by decide⟩ dX11_sign_51 rfl (fun H locs hG => ?_)
    exact wX11_sign_54 hc S8 a1 _ _ _ (lv_sub hl [0, 1] rfl) hG h
  · have h := g_pos c3 h
    refine lv_aload_n hx hb dX11_sign_8 rfl (lv_at hl 0 rfl) ?_
    refine lv_iconst (v := (5 : Int32)) hx hb dX11_sign_9 (by decide) ?_
    obtain ⟨r10, S11, hm9, h⟩ := g_bd h
    refine g_callVv (As := [.int (5 : Int32)]) hc hG (mX11_pour l E hm9) mlX11_219 mcX11_pour miX11_pour rfl rfl rfl rfl hl.1 rfl rfl ⟨by decide, by decide⟩ (Nat.le_of_ble_eq_true rfl) ⟨by decide, by decide⟩ dX11_sign_10 rfl (fun H locs hG => ?_)
    refine lv_aload_n hx hb dX11_sign_13 rfl (lv_at hl 0 rfl) ?_
    refine g_getI hc hG 54 flX11_195 rfl rfl dX11_sign_14 ?_
    refine lv_if_le (tgt := 54) hx hb dX11_sign_17 (by decide) (fun c12 => ?_) (fun c12 => ?_)
    · have h := g_pos c12 h
      exact wX11_sign_54 hc S11 a1 _ _ _ (lv_sub hl [0, 1] rfl) hG h
    · have h := g_neg c12 h
      refine lv_aload_n hx hb dX11_sign_20 rfl (lv_at hl 0 rfl) ?_
      refine g_getR hc hG 54 60 flX11_33 rfl rfl rfl dX11_sign_21 ?_
      refine lv_aload_n hx hb dX11_sign_24 rfl (lv_at hl 0 rfl) ?_
      refine g_getI hc hG 54 flX11_195 rfl rfl dX11_sign_25 ?_
      refine lv_iconst (v := (1 : Int32)) hx hb dX11_sign_28 (by decide) ?_
      refine lv_isub hx hb dX11_sign_29 ?_
      obtain ⟨hi13, h⟩ := g_if h
      refine g_iald hc hG 60 96 ((((S11.1 54 24) - (1 : Int32))).toNatClampNeg) rfl rfl hi13 rfl dX11_sign_30 ?_
      obtain ⟨r15, hm14, h⟩ := g_bv h
      refine g_callSi (As := [.int (S11.1 60 (((S11.1 54 24) - (1 : Int32))).toNatClampNeg)]) hc hG (mX11_bind l E hm14) mlX11_198 mcX11_bind msX11_bind rfl hl.1 rfl rfl ⟨by decide, by decide⟩ (Nat.le_of_ble_eq_true rfl) ⟨by decide, by decide⟩ dX11_sign_31 rfl (fun H locs hG => ?_)
      refine lv_iconst (v := (4 : Int32)) hx hb dX11_sign_34 (by decide) ?_
      refine lv_icmp_ne (tgt := 54) hx hb dX11_sign_35 (by decide) (fun c16 => ?_) (fun c16 => ?_)
      · have h := g_neg c16 h
        exact wX11_sign_54 hc S11 a1 _ _ _ (lv_sub hl [0, 1] rfl) hG h
      · have h := g_pos c16 h
        refine lv_aload_n hx hb dX11_sign_38 rfl (lv_at hl 0 rfl) ?_
        refine lv_iconst (v := (1 : Int32)) hx hb dX11_sign_39 (by decide) ?_
        obtain ⟨r18, S19, hm17, h⟩ := g_bd h
        refine g_callVv (As := [.int (1 : Int32)]) hc hG (mX11_wrong l E hm17) mlX11_167 mcX11_wrong miX11_wrong rfl rfl rfl rfl hl.1 rfl rfl ⟨by decide, by decide⟩ (Nat.le_of_ble_eq_true rfl) ⟨by decide, by decide⟩ dX11_sign_40 rfl (fun H locs hG => ?_)
        refine lv_goto (tgt := 54) hx hb dX11_sign_43 (by decide) ?_
        exact wX11_sign_54 hc S19 a1 _ _ _ (lv_sub hl [0, 1] rfl) hG h
theorem mX11_sign (l : Launch) (E : GE) {S : GS} {a1 : Int32} {res : (Unit × GS)} (h : fX11_sign S a1 = some res) : gMet l E yX11_sign cX11_sign 2 none rmX11_sign [gR E 54, .int a1] S none res.2 :=
  g_met (by decide) (Nat.le_of_ble_eq_true rfl) rfl fun p e s m below meth c H ls hc hG hl => wX11_sign_0 hc S a1 H [] ls hl hG h
abbrev rmX11_expression : Room := { frames := 8, cells := 0, slots := 0, locals := 171 }
def fX11_expression_129 (S : GS) : Option (Unit × GS) := (if (S.1 54 18) = 0 then gbd (fX11_pour S (1 : Int32)) fun r3 S4 => (some ((), S4)) else (some ((), S)))
set_option maxRecDepth 100000 in
set_option maxHeartbeats 4000000 in
theorem wX11_expression_129 {p : Program} {l : Launch} {e : Env} {s : State} {m : MethodId} {args : Array Value} {below : List Frame} {meth : Method} {c : Code} {E : GE} {res : (Unit × GS)} (hc : GM E p s m args meth c RX11 cX11_expression 4 none) : ∀ (S : GS) (H : Heap) (locs : List Loc) (ls : Array Slot), lv_has ls 4 [(0, gR E 54)] → GX E S H locs → fX11_expression_129 S = some res → W p l e rmX11_expression s m args below meth c H locs 0 0 (gZ E below args s none res.2) (F0 m 129 ls []) := by
  obtain ⟨hx, hb, -, -, -, hown, hts, -, -⟩ := id hc
  intro S H locs ls hl hG h
  unfold fX11_expression_129 at h
  refine lv_aload_n hx hb dX11_expression_129 rfl (lv_at hl 0 rfl) ?_
  refine g_getI hc hG 54 flX11_161 rfl rfl dX11_expression_130 ?_
  refine lv_if_ne (tgt := 141) hx hb dX11_expression_133 (by decide) (fun c1 => ?_) (fun c1 => ?_)
  · have h := g_neg c1 h
    exact g_vret hc hG dX11_expression_141 h
  · have h := g_pos c1 h
    refine lv_aload_n hx hb dX11_expression_136 rfl (lv_at hl 0 rfl) ?_
    refine lv_iconst (v := (1 : Int32)) hx hb dX11_expression_137 (by decide) ?_
    obtain ⟨r3, S4, hm2, h⟩ := g_bd h
    refine g_callVv (As := [.int (1 : Int32)]) hc hG (mX11_pour l E hm2) mlX11_219 mcX11_pour miX11_pour rfl rfl rfl rfl hl.1 rfl rfl ⟨by decide, by decide⟩ (Nat.le_of_ble_eq_true rfl) ⟨by decide, by decide⟩ dX11_expression_138 rfl (fun H locs hG => ?_)
    exact g_vret hc hG dX11_expression_141 h
def fX11_expression_109 (S : GS) : Option (Unit × GS) := (if (S.1 54 18) = 0 then (if (S.1 54 25) ≤ 0 then (fX11_expression_129 S) else gbd (fX11_wrong S (1 : Int32)) fun r4 S5 => (fX11_expression_129 S5)) else (some ((), S)))
set_option maxRecDepth 100000 in
set_option maxHeartbeats 4000000 in
theorem wX11_expression_109 {p : Program} {l : Launch} {e : Env} {s : State} {m : MethodId} {args : Array Value} {below : List Frame} {meth : Method} {c : Code} {E : GE} {res : (Unit × GS)} (hc : GM E p s m args meth c RX11 cX11_expression 4 none) : ∀ (S : GS) (H : Heap) (locs : List Loc) (ls : Array Slot), lv_has ls 4 [(0, gR E 54)] → GX E S H locs → fX11_expression_109 S = some res → W p l e rmX11_expression s m args below meth c H locs 0 0 (gZ E below args s none res.2) (F0 m 109 ls []) := by
  obtain ⟨hx, hb, -, -, -, hown, hts, -, -⟩ := id hc
  intro S H locs ls hl hG h
  unfold fX11_expression_109 at h
  refine lv_aload_n hx hb dX11_expression_109 rfl (lv_at hl 0 rfl) ?_
  refine g_getI hc hG 54 flX11_161 rfl rfl dX11_expression_110 ?_
  refine lv_if_eq (tgt := 117) hx hb dX11_expression_113 (by decide) (fun c1 => ?_) (fun c1 => ?_)
  · have h := g_pos c1 h
    refine lv_aload_n hx hb dX11_expression_117 rfl (lv_at hl 0 rfl) ?_
    refine g_getI hc hG 54 flX11_206 rfl rfl dX11_expression_118 ?_
    refine lv_if_le (tgt := 129) hx hb dX11_expression_121 (by decide) (fun c2 => ?_) (fun c2 => ?_)
    · have h := g_pos c2 h
      exact wX11_expression_129 hc S _ _ _ (lv_sub hl [0] rfl) hG h
    · have h := g_neg c2 h
      refine lv_aload_n hx hb dX11_expression_124 rfl (lv_at hl 0 rfl) ?_
      refine lv_iconst (v := (1 : Int32)) hx hb dX11_expression_125 (by decide) ?_
      obtain ⟨r4, S5, hm3, h⟩ := g_bd h
      refine g_callVv (As := [.int (1 : Int32)]) hc hG (mX11_wrong l E hm3) mlX11_167 mcX11_wrong miX11_wrong rfl rfl rfl rfl hl.1 rfl rfl ⟨by decide, by decide⟩ (Nat.le_of_ble_eq_true rfl) ⟨by decide, by decide⟩ dX11_expression_126 rfl (fun H locs hG => ?_)
      exact wX11_expression_129 hc S5 _ _ _ (lv_sub hl [0] rfl) hG h
  · have h := g_neg c1 h
    exact g_vret hc hG dX11_expression_116 h
def fX11_expression_14 : Nat → GS → Int32 → Int32 → Option (Unit × GS)
  | 0, _, _, _ => none
  | n + 1, S, a1, a2 => (if (S.1 54 18) = 0 then (if a2 = 0 then (fX11_expression_109 S) else (if a1 = 0 then gbd (fX11_operand S) fun r26 S27 => (fX11_expression_14 n S27 r26 a2) else gbv (fX11_between S) fun r5 => (if r5 = 0 then gbv (fX11_isSign S (41 : Int32)) fun r8 => (if r8 = 0 then glet (0 : Int32) fun v10 => (fX11_expression_14 n S a1 v10) else (if (S.1 54 25) ≤ 0 then glet (0 : Int32) fun v12 => (fX11_expression_14 n S a1 v12) else gbd (fX11_pour S (1 : Int32)) fun r14 S15 => glet (gsi S15 54 24 ((S15.1 54 24) - (1 : Int32))) fun S16 => glet (gsi S16 54 25 ((S16.1 54 25) - (1 : Int32))) fun S17 => gbd (fX11_next S17) fun r19 S20 => (fX11_expression_14 n S20 a1 a2))) else gbd (fX11_sign S r5) fun r22 S23 => glet (0 : Int32) fun v24 => (fX11_expression_14 n S23 v24 a2)))) else (fX11_expression_109 S))
set_option maxRecDepth 100000 in
set_option maxHeartbeats 4000000 in
theorem wX11_expression_14 {p : Program} {l : Launch} {e : Env} {s : State} {m : MethodId} {args : Array Value} {below : List Frame} {meth : Method} {c : Code} {E : GE} {res : (Unit × GS)} (hc : GM E p s m args meth c RX11 cX11_expression 4 none) : ∀ (n : Nat), ∀ (S : GS) (a1 : Int32) (a2 : Int32) (H : Heap) (locs : List Loc) (ls : Array Slot), lv_has ls 4 [(0, gR E 54), (1, .int a1), (2, .int a2)] → GX E S H locs → fX11_expression_14 n S a1 a2 = some res → W p l e rmX11_expression s m args below meth c H locs 0 0 (gZ E below args s none res.2) (F0 m 14 ls []) := by
  obtain ⟨hx, hb, -, -, -, hown, hts, -, -⟩ := id hc
  intro n
  induction n with
  | zero => intro S a1 a2 H locs ls hl hG h; cases h
  | succ n ih =>
    intro S a1 a2 H locs ls hl hG h
    rw [fX11_expression_14] at h
    refine lv_aload_n hx hb dX11_expression_14 rfl (lv_at hl 0 rfl) ?_
    refine g_getI hc hG 54 flX11_161 rfl rfl dX11_expression_15 ?_
    refine lv_if_ne (tgt := 109) hx hb dX11_expression_18 (by decide) (fun c1 => ?_) (fun c1 => ?_)
    · have h := g_neg c1 h
      exact wX11_expression_109 hc S _ _ _ (lv_sub hl [0] rfl) hG h
    · have h := g_pos c1 h
      refine lv_iload_n hx hb dX11_expression_21 rfl (lv_at hl 2 rfl) ?_
      refine lv_if_eq (tgt := 109) hx hb dX11_expression_22 (by decide) (fun c2 => ?_) (fun c2 => ?_)
      · have h := g_pos c2 h
        exact wX11_expression_109 hc S _ _ _ (lv_sub hl [0] rfl) hG h
      · have h := g_neg c2 h
        refine lv_iload_n hx hb dX11_expression_25 rfl (lv_at hl 1 rfl) ?_
        refine lv_if_ne (tgt := 37) hx hb dX11_expression_26 (by decide) (fun c3 => ?_) (fun c3 => ?_)
        · have h := g_neg c3 h
          refine lv_aload_n hx hb dX11_expression_37 rfl (lv_at hl 0 rfl) ?_
          obtain ⟨r5, hm4, h⟩ := g_bv h
          refine g_callVi (As := []) hc hG (mX11_between l E hm4) mlX11_213 mcX11_between miX11_between rfl rfl rfl rfl hl.1 rfl rfl ⟨by decide, by decide⟩ (Nat.le_of_ble_eq_true rfl) ⟨by decide, by decide⟩ dX11_expression_38 rfl (fun H locs hG => ?_)
          refine lv_istore_n (lv' := [(3, .int r5), (0, gR E 54), (1, .int a1), (2, .int a2)]) hx hb dX11_expression_41 rfl hl (by decide) rfl (fun ls hl => ?_)
          refine lv_iload_n hx hb dX11_expression_42 rfl (lv_at hl 0 rfl) ?_
          refine lv_if_eq (tgt := 56) hx hb dX11_expression_43 (by decide) (fun c6 => ?_) (fun c6 => ?_)
          · have h := g_pos c6 h
            refine lv_aload_n hx hb dX11_expression_56 rfl (lv_at hl 1 rfl) ?_
            refine lv_bipush (v := (41 : Int32)) hx hb dX11_expression_57 (by decide) ?_
            obtain ⟨r8, hm7, h⟩ := g_bv h
            refine g_callVi (As := [.int (41 : Int32)]) hc hG (mX11_isSign l E hm7) mlX11_186 mcX11_isSign miX11_isSign rfl rfl rfl rfl hl.1 rfl rfl ⟨by decide, by decide⟩ (Nat.le_of_ble_eq_true rfl) ⟨by decide, by decide⟩ dX11_expression_59 rfl (fun H locs hG => ?_)
            refine lv_if_eq (tgt := 104) hx hb dX11_expression_62 (by decide) (fun c9 => ?_) (fun c9 => ?_)
            · have h := g_pos c9 h
              refine lv_iconst (v := (0 : Int32)) hx hb dX11_expression_104 (by decide) ?_
              refine lv_topi (fun v10 ev10 => ?_)
              have h := g_let ev10 h
              refine lv_istore_n (lv' := [(2, .int v10), (3, .int r5), (0, gR E 54), (1, .int a1)]) hx hb dX11_expression_105 rfl hl (by decide) rfl (fun ls hl => ?_)
              refine lv_goto (tgt := 14) hx hb dX11_expression_106 (by decide) ?_
              exact ih S a1 v10 _ _ _ (lv_sub hl [2, 3, 0] rfl) hG h
            · have h := g_neg c9 h
              refine lv_aload_n hx hb dX11_expression_65 rfl (lv_at hl 1 rfl) ?_
              refine g_getI hc hG 54 flX11_206 rfl rfl dX11_expression_66 ?_
              refine lv_if_le (tgt := 104) hx hb dX11_expression_69 (by decide) (fun c11 => ?_) (fun c11 => ?_)
              · have h := g_pos c11 h
                refine lv_iconst (v := (0 : Int32)) hx hb dX11_expression_104 (by decide) ?_
                refine lv_topi (fun v12 ev12 => ?_)
                have h := g_let ev12 h
                refine lv_istore_n (lv' := [(2, .int v12), (3, .int r5), (0, gR E 54), (1, .int a1)]) hx hb dX11_expression_105 rfl hl (by decide) rfl (fun ls hl => ?_)
                refine lv_goto (tgt := 14) hx hb dX11_expression_106 (by decide) ?_
                exact ih S a1 v12 _ _ _ (lv_sub hl [2, 3, 0] rfl) hG h
              · have h := g_neg c11 h
                refine lv_aload_n hx hb dX11_expression_72 rfl (lv_at hl 1 rfl) ?_
                refine lv_iconst (v := (1 : Int32)) hx hb dX11_expression_73 (by decide) ?_
                obtain ⟨r14, S15, hm13, h⟩ := g_bd h
                refine g_callVv (As := [.int (1 : Int32)]) hc hG (mX11_pour l E hm13) mlX11_219 mcX11_pour miX11_pour rfl rfl rfl rfl hl.1 rfl rfl ⟨by decide, by decide⟩ (Nat.le_of_ble_eq_true rfl) ⟨by decide, by decide⟩ dX11_expression_74 rfl (fun H locs hG => ?_)
                refine lv_aload_n hx hb dX11_expression_77 rfl (lv_at hl 1 rfl) ?_
                refine lv_dup hx hb dX11_expression_78 rfl ?_
                refine g_getI hc hG 54 flX11_195 rfl rfl dX11_expression_79 ?_
                refine lv_iconst (v := (1 : Int32)) hx hb dX11_expression_82 (by decide) ?_
                refine lv_isub hx hb dX11_expression_83 ?_
                refine g_putI hc hG 54 fpX11_195 rfl rfl rfl rfl dX11_expression_84 (fun S16 H locs eS16 hG => ?_)
                have h := g_let eS16 h
                refine lv_aload_n hx hb dX11_expression_87 rfl (lv_at hl 1 rfl) ?_
                refine lv_dup hx hb dX11_expression_88 rfl ?_
                refine g_getI hc hG 54 flX11_206 rfl rfl dX11_expression_89 ?_
                refine lv_iconst (v := (1 : Int32)) hx hb dX11_expression_92 (by decide) ?_
                refine lv_isub hx hb dX11_expression_93 ?_
                refine g_putI hc hG 54 fpX11_206 rfl rfl rfl rfl dX11_expression_94 (fun S17 H locs eS17 hG => ?_)
                have h := g_let eS17 h
                refine lv_aload_n hx hb dX11_expression_97 rfl (lv_at hl 1 rfl) ?_
                obtain ⟨r19, S20, hm18, h⟩ := g_bd h
                refine g_callVv (As := []) hc hG (mX11_next l E hm18) mlX11_174 mcX11_next miX11_next rfl rfl rfl rfl hl.1 rfl rfl ⟨by decide, by decide⟩ (Nat.le_of_ble_eq_true rfl) ⟨by decide, by decide⟩ dX11_expression_98 rfl (fun H locs hG => ?_)
                refine lv_goto (tgt := 106) hx hb dX11_expression_101 (by decide) ?_
                refine lv_goto (tgt := 14) hx hb dX11_expression_106 (by decide) ?_
                exact ih S20 a1 a2 _ _ _ (lv_sub hl [1, 2, 3] rfl) hG h
          · have h := g_neg c6 h
            refine lv_aload_n hx hb dX11_expression_46 rfl (lv_at hl 1 rfl) ?_
            refine lv_iload_n hx hb dX11_expression_47 rfl (lv_at hl 0 rfl) ?_
            obtain ⟨r22, S23, hm21, h⟩ := g_bd h
            refine g_callVv (As := [.int r5]) hc hG (mX11_sign l E hm21) mlX11_216 mcX11_sign miX11_sign rfl rfl rfl rfl hl.1 rfl rfl ⟨by decide, by decide⟩ (Nat.le_of_ble_eq_true rfl) ⟨by decide, by decide⟩ dX11_expression_48 rfl (fun H locs hG => ?_)
            refine lv_iconst (v := (0 : Int32)) hx hb dX11_expression_51 (by decide) ?_
            refine lv_topi (fun v24 ev24 => ?_)
            have h := g_let ev24 h
            refine lv_istore_n (lv' := [(1, .int v24), (3, .int r5), (0, gR E 54), (2, .int a2)]) hx hb dX11_expression_52 rfl hl (by decide) rfl (fun ls hl => ?_)
            refine lv_goto (tgt := 106) hx hb dX11_expression_53 (by decide) ?_
            refine lv_goto (tgt := 14) hx hb dX11_expression_106 (by decide) ?_
            exact ih S23 v24 a2 _ _ _ (lv_sub hl [2, 0, 3] rfl) hG h
        · have h := g_pos c3 h
          refine lv_aload_n hx hb dX11_expression_29 rfl (lv_at hl 0 rfl) ?_
          obtain ⟨r26, S27, hm25, h⟩ := g_bd h
          refine g_callVi (As := []) hc hG (mX11_operand l E hm25) mlX11_209 mcX11_operand miX11_operand rfl rfl rfl rfl hl.1 rfl rfl ⟨by decide, by decide⟩ (Nat.le_of_ble_eq_true rfl) ⟨by decide, by decide⟩ dX11_expression_30 rfl (fun H locs hG => ?_)
          refine lv_istore_n (lv' := [(1, .int r26), (0, gR E 54), (2, .int a2)]) hx hb dX11_expression_33 rfl hl (by decide) rfl (fun ls hl => ?_)
          refine lv_goto (tgt := 14) hx hb dX11_expression_34 (by decide) ?_
          exact ih S27 r26 a2 _ _ _ (lv_sub hl [1, 0, 2] rfl) hG h
def fX11_expression (S : GS) : Option (Unit × GS) := glet (gsi S 54 24 (0 : Int32)) fun S1 => glet (gsi S1 54 25 (0 : Int32)) fun S2 => glet (0 : Int32) fun v3 => glet (1 : Int32) fun v4 => (fX11_expression_14 FU S2 v3 v4)
set_option maxRecDepth 100000 in
set_option maxHeartbeats 4000000 in
theorem wX11_expression_0 {p : Program} {l : Launch} {e : Env} {s : State} {m : MethodId} {args : Array Value} {below : List Frame} {meth : Method} {c : Code} {E : GE} {res : (Unit × GS)} (hc : GM E p s m args meth c RX11 cX11_expression 4 none) : ∀ (S : GS) (H : Heap) (locs : List Loc) (ls : Array Slot), lv_has ls 4 [(0, gR E 54)] → GX E S H locs → fX11_expression S = some res → W p l e rmX11_expression s m args below meth c H locs 0 0 (gZ E below args s none res.2) (F0 m 0 ls []) := by
  obtain ⟨hx, hb, -, -, -, hown, hts, -, -⟩ := id hc
  intro S H locs ls hl hG h
  unfold fX11_expression at h
  refine lv_aload_n hx hb dX11_expression_0 rfl (lv_at hl 0 rfl) ?_
  refine lv_iconst (v := (0 : Int32)) hx hb dX11_expression_1 (by decide) ?_
  refine g_putI hc hG 54 fpX11_195 rfl rfl rfl rfl dX11_expression_2 (fun S1 H locs eS1 hG => ?_)
  have h := g_let eS1 h
  refine lv_aload_n hx hb dX11_expression_5 rfl (lv_at hl 0 rfl) ?_
  refine lv_iconst (v := (0 : Int32)) hx hb dX11_expression_6 (by decide) ?_
  refine g_putI hc hG 54 fpX11_206 rfl rfl rfl rfl dX11_expression_7 (fun S2 H locs eS2 hG => ?_)
  have h := g_let eS2 h
  refine lv_iconst (v := (0 : Int32)) hx hb dX11_expression_10 (by decide) ?_
  refine lv_topi (fun v3 ev3 => ?_)
  have h := g_let ev3 h
  refine lv_istore_n (lv' := [(1, .int v3), (0, gR E 54)]) hx hb dX11_expression_11 rfl hl (by decide) rfl (fun ls hl => ?_)
  refine lv_iconst (v := (1 : Int32)) hx hb dX11_expression_12 (by decide) ?_
  refine lv_topi (fun v4 ev4 => ?_)
  have h := g_let ev4 h
  refine lv_istore_n (lv' := [(2, .int v4), (1, .int v3), (0, gR E 54)]) hx hb dX11_expression_13 rfl hl (by decide) rfl (fun ls hl => ?_)
  exact wX11_expression_14 hc FU S2 v3 v4 _ _ _ (lv_sub hl [2, 1, 0] rfl) hG h
theorem mX11_expression (l : Launch) (E : GE) {S : GS} {res : (Unit × GS)} (h : fX11_expression S = some res) : gMet l E yX11_expression cX11_expression 4 none rmX11_expression [gR E 54] S none res.2 :=
  g_met (by decide) (Nat.le_of_ble_eq_true rfl) rfl fun p e s m below meth c H ls hc hG hl => wX11_expression_0 hc S H [] ls hl hG h
abbrev rmX11_lineOf : Room := { frames := 9, cells := 0, slots := 0, locals := 194 }
def fX11_lineOf_15 (S : GS) : Option (Unit × GS) := gbd (fX11_wrong S (1 : Int32)) fun r2 S3 => (some ((), S3))
set_option maxRecDepth 100000 in
set_option maxHeartbeats 4000000 in
theorem wX11_lineOf_15 {p : Program} {l : Launch} {e : Env} {s : State} {m : MethodId} {args : Array Value} {below : List Frame} {meth : Method} {c : Code} {E : GE} {res : (Unit × GS)} (hc : GM E p s m args meth c RX11 cX11_lineOf 2 none) : ∀ (S : GS) (H : Heap) (locs : List Loc) (ls : Array Slot), lv_has ls 2 [(0, gR E 54)] → GX E S H locs → fX11_lineOf_15 S = some res → W p l e rmX11_lineOf s m args below meth c H locs 0 0 (gZ E below args s none res.2) (F0 m 15 ls []) := by
  obtain ⟨hx, hb, -, -, -, hown, hts, -, -⟩ := id hc
  intro S H locs ls hl hG h
  unfold fX11_lineOf_15 at h
  refine lv_aload_n hx hb dX11_lineOf_15 rfl (lv_at hl 0 rfl) ?_
  refine lv_iconst (v := (1 : Int32)) hx hb dX11_lineOf_16 (by decide) ?_
  obtain ⟨r2, S3, hm1, h⟩ := g_bd h
  refine g_callVv (As := [.int (1 : Int32)]) hc hG (mX11_wrong l E hm1) mlX11_167 mcX11_wrong miX11_wrong rfl rfl rfl rfl hl.1 rfl rfl ⟨by decide, by decide⟩ (Nat.le_of_ble_eq_true rfl) ⟨by decide, by decide⟩ dX11_lineOf_17 rfl (fun H locs hG => ?_)
  exact g_vret hc hG dX11_lineOf_20 h
def fX11_lineOf_175 (S : GS) : Option (Unit × GS) := glet (gsi S 54 11 ((S.1 54 11) + (1 : Int32))) fun S1 => (some ((), S1))
set_option maxRecDepth 100000 in
set_option maxHeartbeats 4000000 in
theorem wX11_lineOf_175 {p : Program} {l : Launch} {e : Env} {s : State} {m : MethodId} {args : Array Value} {below : List Frame} {meth : Method} {c : Code} {E : GE} {res : (Unit × GS)} (hc : GM E p s m args meth c RX11 cX11_lineOf 2 none) : ∀ (S : GS) (H : Heap) (locs : List Loc) (ls : Array Slot), lv_has ls 2 [(0, gR E 54)] → GX E S H locs → fX11_lineOf_175 S = some res → W p l e rmX11_lineOf s m args below meth c H locs 0 0 (gZ E below args s none res.2) (F0 m 175 ls []) := by
  obtain ⟨hx, hb, -, -, -, hown, hts, -, -⟩ := id hc
  intro S H locs ls hl hG h
  unfold fX11_lineOf_175 at h
  refine lv_aload_n hx hb dX11_lineOf_175 rfl (lv_at hl 0 rfl) ?_
  refine lv_dup hx hb dX11_lineOf_176 rfl ?_
  refine g_getI hc hG 54 flX11_189 rfl rfl dX11_lineOf_177 ?_
  refine lv_iconst (v := (1 : Int32)) hx hb dX11_lineOf_180 (by decide) ?_
  refine lv_iadd hx hb dX11_lineOf_181 ?_
  refine g_putI hc hG 54 fpX11_189 rfl rfl rfl rfl dX11_lineOf_182 (fun S1 H locs eS1 hG => ?_)
  have h := g_let eS1 h
  exact g_vret hc hG dX11_lineOf_185 h
def fX11_lineOf_146 (S : GS) : Option (Unit × GS) := (if (S.1 54 18) = 0 then gbv (fX11_isSign S (59 : Int32)) fun r3 => (if r3 = 0 then gbd (fX11_wrong S (1 : Int32)) fun r9 S10 => (fX11_lineOf_175 S10) else gbd (fX11_next S) fun r6 S7 => (fX11_lineOf_175 S7)) else (some ((), S)))
set_option maxRecDepth 100000 in
set_option maxHeartbeats 4000000 in
theorem wX11_lineOf_146 {p : Program} {l : Launch} {e : Env} {s : State} {m : MethodId} {args : Array Value} {below : List Frame} {meth : Method} {c : Code} {E : GE} {res : (Unit × GS)} (hc : GM E p s m args meth c RX11 cX11_lineOf 2 none) : ∀ (S : GS) (H : Heap) (locs : List Loc) (ls : Array Slot), lv_has ls 2 [(0, gR E 54)] → GX E S H locs → fX11_lineOf_146 S = some res → W p l e rmX11_lineOf s m args below meth c H locs 0 0 (gZ E below args s none res.2) (F0 m 146 ls []) := by
  obtain ⟨hx, hb, -, -, -, hown, hts, -, -⟩ := id hc
  intro S H locs ls hl hG h
  unfold fX11_lineOf_146 at h
  refine lv_aload_n hx hb dX11_lineOf_146 rfl (lv_at hl 0 rfl) ?_
  refine g_getI hc hG 54 flX11_161 rfl rfl dX11_lineOf_147 ?_
  refine lv_if_eq (tgt := 154) hx hb dX11_lineOf_150 (by decide) (fun c1 => ?_) (fun c1 => ?_)
  · have h := g_pos c1 h
    refine lv_aload_n hx hb dX11_lineOf_154 rfl (lv_at hl 0 rfl) ?_
    refine lv_bipush (v := (59 : Int32)) hx hb dX11_lineOf_155 (by decide) ?_
    obtain ⟨r3, hm2, h⟩ := g_bv h
    refine g_callVi (As := [.int (59 : Int32)]) hc hG (mX11_isSign l E hm2) mlX11_186 mcX11_isSign miX11_isSign rfl rfl rfl rfl hl.1 rfl rfl ⟨by decide, by decide⟩ (Nat.le_of_ble_eq_true rfl) ⟨by decide, by decide⟩ dX11_lineOf_157 rfl (fun H locs hG => ?_)
    refine lv_if_ne (tgt := 171) hx hb dX11_lineOf_160 (by decide) (fun c4 => ?_) (fun c4 => ?_)
    · have h := g_neg c4 h
      refine lv_aload_n hx hb dX11_lineOf_171 rfl (lv_at hl 0 rfl) ?_
      obtain ⟨r6, S7, hm5, h⟩ := g_bd h
      refine g_callVv (As := []) hc hG (mX11_next l E hm5) mlX11_174 mcX11_next miX11_next rfl rfl rfl rfl hl.1 rfl rfl ⟨by decide, by decide⟩ (Nat.le_of_ble_eq_true rfl) ⟨by decide, by decide⟩ dX11_lineOf_172 rfl (fun H locs hG => ?_)
      exact wX11_lineOf_175 hc S7 _ _ _ (lv_sub hl [0] rfl) hG h
    · have h := g_pos c4 h
      refine lv_aload_n hx hb dX11_lineOf_163 rfl (lv_at hl 0 rfl) ?_
      refine lv_iconst (v := (1 : Int32)) hx hb dX11_lineOf_164 (by decide) ?_
      obtain ⟨r9, S10, hm8, h⟩ := g_bd h
      refine g_callVv (As := [.int (1 : Int32)]) hc hG (mX11_wrong l E hm8) mlX11_167 mcX11_wrong miX11_wrong rfl rfl rfl rfl hl.1 rfl rfl ⟨by decide, by decide⟩ (Nat.le_of_ble_eq_true rfl) ⟨by decide, by decide⟩ dX11_lineOf_165 rfl (fun H locs hG => ?_)
      refine lv_goto (tgt := 175) hx hb dX11_lineOf_168 (by decide) ?_
      exact wX11_lineOf_175 hc S10 _ _ _ (lv_sub hl [0] rfl) hG h
  · have h := g_neg c1 h
    exact g_vret hc hG dX11_lineOf_153 h
def fX11_lineOf_103 (S : GS) : Option (Unit × GS) := glet (gsi S 54 8 (S.1 54 17)) fun S1 => (if (S1.1 54 18) = 0 then gbd (fX11_next S1) fun r4 S5 => (fX11_lineOf_146 S5) else (fX11_lineOf_146 S1))
set_option maxRecDepth 100000 in
set_option maxHeartbeats 4000000 in
theorem wX11_lineOf_103 {p : Program} {l : Launch} {e : Env} {s : State} {m : MethodId} {args : Array Value} {below : List Frame} {meth : Method} {c : Code} {E : GE} {res : (Unit × GS)} (hc : GM E p s m args meth c RX11 cX11_lineOf 2 none) : ∀ (S : GS) (H : Heap) (locs : List Loc) (ls : Array Slot), lv_has ls 2 [(0, gR E 54)] → GX E S H locs → fX11_lineOf_103 S = some res → W p l e rmX11_lineOf s m args below meth c H locs 0 0 (gZ E below args s none res.2) (F0 m 103 ls []) := by
  obtain ⟨hx, hb, -, -, -, hown, hts, -, -⟩ := id hc
  intro S H locs ls hl hG h
  unfold fX11_lineOf_103 at h
  refine lv_aload_n hx hb dX11_lineOf_103 rfl (lv_at hl 0 rfl) ?_
  refine lv_aload_n hx hb dX11_lineOf_104 rfl (lv_at hl 0 rfl) ?_
  refine g_getI hc hG 54 flX11_144 rfl rfl dX11_lineOf_105 ?_
  refine g_putI hc hG 54 fpX11_177 rfl rfl rfl rfl dX11_lineOf_108 (fun S1 H locs eS1 hG => ?_)
  have h := g_let eS1 h
  refine lv_aload_n hx hb dX11_lineOf_111 rfl (lv_at hl 0 rfl) ?_
  refine g_getI hc hG 54 flX11_161 rfl rfl dX11_lineOf_112 ?_
  refine lv_if_ne (tgt := 146) hx hb dX11_lineOf_115 (by decide) (fun c2 => ?_) (fun c2 => ?_)
  · have h := g_neg c2 h
    exact wX11_lineOf_146 hc S1 _ _ _ (lv_sub hl [0] rfl) hG h
  · have h := g_pos c2 h
    refine lv_aload_n hx hb dX11_lineOf_118 rfl (lv_at hl 0 rfl) ?_
    obtain ⟨r4, S5, hm3, h⟩ := g_bd h
    refine g_callVv (As := []) hc hG (mX11_next l E hm3) mlX11_174 mcX11_next miX11_next rfl rfl rfl rfl hl.1 rfl rfl ⟨by decide, by decide⟩ (Nat.le_of_ble_eq_true rfl) ⟨by decide, by decide⟩ dX11_lineOf_119 rfl (fun H locs hG => ?_)
    refine lv_goto (tgt := 146) hx hb dX11_lineOf_122 (by decide) ?_
    exact wX11_lineOf_146 hc S5 _ _ _ (lv_sub hl [0] rfl) hG h
def fX11_lineOf_98 (S : GS) : Option (Unit × GS) := gbd (fX11_wrong S (2 : Int32)) fun r2 S3 => (fX11_lineOf_103 S3)
set_option maxRecDepth 100000 in
set_option maxHeartbeats 4000000 in
theorem wX11_lineOf_98 {p : Program} {l : Launch} {e : Env} {s : State} {m : MethodId} {args : Array Value} {below : List Frame} {meth : Method} {c : Code} {E : GE} {res : (Unit × GS)} (hc : GM E p s m args meth c RX11 cX11_lineOf 2 none) : ∀ (S : GS) (H : Heap) (locs : List Loc) (ls : Array Slot), lv_has ls 2 [(0, gR E 54)] → GX E S H locs → fX11_lineOf_98 S = some res → W p l e rmX11_lineOf s m args below meth c H locs 0 0 (gZ E below args s none res.2) (F0 m 98 ls []) := by
  obtain ⟨hx, hb, -, -, -, hown, hts, -, -⟩ := id hc
  intro S H locs ls hl hG h
  unfold fX11_lineOf_98 at h
  refine lv_aload_n hx hb dX11_lineOf_98 rfl (lv_at hl 0 rfl) ?_
  refine lv_iconst (v := (2 : Int32)) hx hb dX11_lineOf_99 (by decide) ?_
  obtain ⟨r2, S3, hm1, h⟩ := g_bd h
  refine g_callVv (As := [.int (2 : Int32)]) hc hG (mX11_wrong l E hm1) mlX11_167 mcX11_wrong miX11_wrong rfl rfl rfl rfl hl.1 rfl rfl ⟨by decide, by decide⟩ (Nat.le_of_ble_eq_true rfl) ⟨by decide, by decide⟩ dX11_lineOf_100 rfl (fun H locs hG => ?_)
  exact wX11_lineOf_103 hc S3 _ _ _ (lv_sub hl [0] rfl) hG h
def fX11_lineOf (S : GS) : Option (Unit × GS) := (if (S.1 54 16) = 0 then (if (S.1 54 17) ≤ (2 : Int32) then glet (S.1 54 17) fun v3 => (if (((S.1 54 12) >>> (v3 &&& 31)) &&& (1 : Int32)) = (1 : Int32) then gbd (fX11_wrong S (3 : Int32)) fun r23 S24 => (some ((), S24)) else glet (gsi S 54 12 ((S.1 54 12) ||| ((1 : Int32) <<< (v3 &&& 31)))) fun S5 => gbd (fX11_next S5) fun r7 S8 => (if v3 = (2 : Int32) then (if (S8.1 54 16) = (1 : Int32) then (if (S8.1 54 17) < (1 : Int32) then (fX11_lineOf_98 S8) else (if (S8.1 54 17) ≤ (9 : Int32) then (fX11_lineOf_103 S8) else (fX11_lineOf_98 S8))) else gbd (fX11_wrong S8 (1 : Int32)) fun r20 S21 => (fX11_lineOf_103 S21)) else glet (gsi S8 54 22 ((2 : Int32) + v3)) fun S10 => (if gib (S10.1 54 22) 4 = true then glet (gsi S10 59 (((S10.1 54 22)).toNatClampNeg) (vp_nar .boolean (1 : Int32))) fun S12 => gbd (fX11_expression S12) fun r14 S15 => (fX11_lineOf_146 S15) else none))) else (fX11_lineOf_15 S)) else (fX11_lineOf_15 S))
set_option maxRecDepth 100000 in
set_option maxHeartbeats 4000000 in
theorem wX11_lineOf_0 {p : Program} {l : Launch} {e : Env} {s : State} {m : MethodId} {args : Array Value} {below : List Frame} {meth : Method} {c : Code} {E : GE} {res : (Unit × GS)} (hc : GM E p s m args meth c RX11 cX11_lineOf 2 none) : ∀ (S : GS) (H : Heap) (locs : List Loc) (ls : Array Slot), lv_has ls 2 [(0, gR E 54)] → GX E S H locs → fX11_lineOf S = some res → W p l e rmX11_lineOf s m args below meth c H locs 0 0 (gZ E below args s none res.2) (F0 m 0 ls []) := by
  obtain ⟨hx, hb, -, -, -, hown, hts, -, -⟩ := id hc
  intro S H locs ls hl hG h
  unfold fX11_lineOf at h
  refine lv_aload_n hx hb dX11_lineOf_0 rfl (lv_at hl 0 rfl) ?_
  refine g_getI hc hG 54 flX11_134 rfl rfl dX11_lineOf_1 ?_
  refine lv_if_ne (tgt := 15) hx hb dX11_lineOf_4 (by decide) (fun c1 => ?_) (fun c1 => ?_)
  · have h := g_neg c1 h
    exact wX11_lineOf_15 hc S _ _ _ (lv_sub hl [0] rfl) hG h
  · have h := g_pos c1 h
    refine lv_aload_n hx hb dX11_lineOf_7 rfl (lv_at hl 0 rfl) ?_
    refine g_getI hc hG 54 flX11_144 rfl rfl dX11_lineOf_8 ?_
    refine lv_iconst (v := (2 : Int32)) hx hb dX11_lineOf_11 (by decide) ?_
    refine lv_icmp_le (tgt := 21) hx hb dX11_lineOf_12 (by decide) (fun c2 => ?_) (fun c2 => ?_)
    · have h := g_pos c2 h
      refine lv_aload_n hx hb dX11_lineOf_21 rfl (lv_at hl 0 rfl) ?_
      refine g_getI hc hG 54 flX11_144 rfl rfl dX11_lineOf_22 ?_
      refine lv_topi (fun v3 ev3 => ?_)
      have h := g_let ev3 h
      refine lv_istore_n (lv' := [(1, .int v3), (0, gR E 54)]) hx hb dX11_lineOf_25 rfl hl (by decide) rfl (fun ls hl => ?_)
      refine lv_aload_n hx hb dX11_lineOf_26 rfl (lv_at hl 1 rfl) ?_
      refine g_getI hc hG 54 flX11_171 rfl rfl dX11_lineOf_27 ?_
      refine lv_iload_n hx hb dX11_lineOf_30 rfl (lv_at hl 0 rfl) ?_
      refine lv_ishr hx hb dX11_lineOf_31 ?_
      refine lv_iconst (v := (1 : Int32)) hx hb dX11_lineOf_32 (by decide) ?_
      refine lv_iand hx hb dX11_lineOf_33 ?_
      refine lv_iconst (v := (1 : Int32)) hx hb dX11_lineOf_34 (by decide) ?_
      refine lv_icmp_ne (tgt := 44) hx hb dX11_lineOf_35 (by decide) (fun c4 => ?_) (fun c4 => ?_)
      · have h := g_neg c4 h
        refine lv_aload_n hx hb dX11_lineOf_44 rfl (lv_at hl 1 rfl) ?_
        refine lv_dup hx hb dX11_lineOf_45 rfl ?_
        refine g_getI hc hG 54 flX11_171 rfl rfl dX11_lineOf_46 ?_
        refine lv_iconst (v := (1 : Int32)) hx hb dX11_lineOf_49 (by decide) ?_
        refine lv_iload_n hx hb dX11_lineOf_50 rfl (lv_at hl 0 rfl) ?_
        refine lv_ishl hx hb dX11_lineOf_51 ?_
        refine lv_ior hx hb dX11_lineOf_52 ?_
        refine g_putI hc hG 54 fpX11_171 rfl rfl rfl rfl dX11_lineOf_53 (fun S5 H locs eS5 hG => ?_)
        have h := g_let eS5 h
        refine lv_aload_n hx hb dX11_lineOf_56 rfl (lv_at hl 1 rfl) ?_
        obtain ⟨r7, S8, hm6, h⟩ := g_bd h
        refine g_callVv (As := []) hc hG (mX11_next l E hm6) mlX11_174 mcX11_next miX11_next rfl rfl rfl rfl hl.1 rfl rfl ⟨by decide, by decide⟩ (Nat.le_of_ble_eq_true rfl) ⟨by decide, by decide⟩ dX11_lineOf_57 rfl (fun H locs hG => ?_)
        refine lv_iload_n hx hb dX11_lineOf_60 rfl (lv_at hl 0 rfl) ?_
        refine lv_iconst (v := (2 : Int32)) hx hb dX11_lineOf_61 (by decide) ?_
        refine lv_icmp_ne (tgt := 125) hx hb dX11_lineOf_62 (by decide) (fun c9 => ?_) (fun c9 => ?_)
        · have h := g_neg c9 h
          refine lv_aload_n hx hb dX11_lineOf_125 rfl (lv_at hl 1 rfl) ?_
          refine lv_iconst (v := (2 : Int32)) hx hb dX11_lineOf_126 (by decide) ?_
          refine lv_iload_n hx hb dX11_lineOf_127 rfl (lv_at hl 0 rfl) ?_
          refine lv_iadd hx hb dX11_lineOf_128 ?_
          refine g_putI hc hG 54 fpX11_180 rfl rfl rfl rfl dX11_lineOf_129 (fun S10 H locs eS10 hG => ?_)
          have h := g_let eS10 h
          refine lv_aload_n hx hb dX11_lineOf_132 rfl (lv_at hl 1 rfl) ?_
          refine g_getR hc hG 54 59 flX11_22 rfl rfl rfl dX11_lineOf_133 ?_
          refine lv_aload_n hx hb dX11_lineOf_136 rfl (lv_at hl 1 rfl) ?_
          refine g_getI hc hG 54 flX11_180 rfl rfl dX11_lineOf_137 ?_
          refine lv_iconst (v := (1 : Int32)) hx hb dX11_lineOf_140 (by decide) ?_
          obtain ⟨hi11, h⟩ := g_if h
          refine g_zast hc hG 59 4 (((S10.1 54 22)).toNatClampNeg) rfl rfl hi11 rfl dX11_lineOf_141 (fun S12 H locs eS12 hG => ?_)
          have h := g_let eS12 h
          refine lv_aload_n hx hb dX11_lineOf_142 rfl (lv_at hl 1 rfl) ?_
          obtain ⟨r14, S15, hm13, h⟩ := g_bd h
          refine g_callVv (As := []) hc hG (mX11_expression l E hm13) mlX11_183 mcX11_expression miX11_expression rfl rfl rfl rfl hl.1 rfl rfl ⟨by decide, by decide⟩ (Nat.le_of_ble_eq_true rfl) ⟨by decide, by decide⟩ dX11_lineOf_143 rfl (fun H locs hG => ?_)
          exact wX11_lineOf_146 hc S15 _ _ _ (lv_sub hl [1] rfl) hG h
        · have h := g_pos c9 h
          refine lv_aload_n hx hb dX11_lineOf_65 rfl (lv_at hl 1 rfl) ?_
          refine g_getI hc hG 54 flX11_134 rfl rfl dX11_lineOf_66 ?_
          refine lv_iconst (v := (1 : Int32)) hx hb dX11_lineOf_69 (by decide) ?_
          refine lv_icmp_eq (tgt := 81) hx hb dX11_lineOf_70 (by decide) (fun c16 => ?_) (fun c16 => ?_)
          · have h := g_pos c16 h
            refine lv_aload_n hx hb dX11_lineOf_81 rfl (lv_at hl 1 rfl) ?_
            refine g_getI hc hG 54 flX11_144 rfl rfl dX11_lineOf_82 ?_
            refine lv_iconst (v := (1 : Int32)) hx hb dX11_lineOf_85 (by decide) ?_
            refine lv_icmp_lt (tgt := 98) hx hb dX11_lineOf_86 (by decide) (fun c17 => ?_) (fun c17 => ?_)
            · have h := g_pos c17 h
              exact wX11_lineOf_98 hc S8 _ _ _ (lv_sub hl [1] rfl) hG h
            · have h := g_neg c17 h
              refine lv_aload_n hx hb dX11_lineOf_89 rfl (lv_at hl 1 rfl) ?_
              refine g_getI hc hG 54 flX11_144 rfl rfl dX11_lineOf_90 ?_
              refine lv_bipush (v := (9 : Int32)) hx hb dX11_lineOf_93 (by decide) ?_
              refine lv_icmp_le (tgt := 103) hx hb dX11_lineOf_95 (by decide) (fun c18 => ?_) (fun c18 => ?_)
              · have h := g_pos c18 h
                exact wX11_lineOf_103 hc S8 _ _ _ (lv_sub hl [1] rfl) hG h
              · have h := g_neg c18 h
                exact wX11_lineOf_98 hc S8 _ _ _ (lv_sub hl [1] rfl) hG h
          · have h := g_neg c16 h
            refine lv_aload_n hx hb dX11_lineOf_73 rfl (lv_at hl 1 rfl) ?_
            refine lv_iconst (v := (1 : Int32)) hx hb dX11_lineOf_74 (by decide) ?_
            obtain ⟨r20, S21, hm19, h⟩ := g_bd h
            refine g_callVv (As := [.int (1 : Int32)]) hc hG (mX11_wrong l E hm19) mlX11_167 mcX11_wrong miX11_wrong rfl rfl rfl rfl hl.1 rfl rfl ⟨by decide, by decide⟩ (Nat.le_of_ble_eq_true rfl) ⟨by decide, by decide⟩ dX11_lineOf_75 rfl (fun H locs hG => ?_)
            refine lv_goto (tgt := 103) hx hb dX11_lineOf_78 (by decide) ?_
            exact wX11_lineOf_103 hc S21 _ _ _ (lv_sub hl [1] rfl) hG h
      · have h := g_pos c4 h
        refine lv_aload_n hx hb dX11_lineOf_38 rfl (lv_at hl 1 rfl) ?_
        refine lv_iconst (v := (3 : Int32)) hx hb dX11_lineOf_39 (by decide) ?_
        obtain ⟨r23, S24, hm22, h⟩ := g_bd h
        refine g_callVv (As := [.int (3 : Int32)]) hc hG (mX11_wrong l E hm22) mlX11_167 mcX11_wrong miX11_wrong rfl rfl rfl rfl hl.1 rfl rfl ⟨by decide, by decide⟩ (Nat.le_of_ble_eq_true rfl) ⟨by decide, by decide⟩ dX11_lineOf_40 rfl (fun H locs hG => ?_)
        exact g_vret hc hG dX11_lineOf_43 h
    · have h := g_neg c2 h
      exact wX11_lineOf_15 hc S _ _ _ (lv_sub hl [0] rfl) hG h
theorem mX11_lineOf (l : Launch) (E : GE) {S : GS} {res : (Unit × GS)} (h : fX11_lineOf S = some res) : gMet l E yX11_lineOf cX11_lineOf 2 none rmX11_lineOf [gR E 54] S none res.2 :=
  g_met (by decide) (Nat.le_of_ble_eq_true rfl) rfl fun p e s m below meth c H ls hc hG hl => wX11_lineOf_0 hc S H [] ls hl hG h
abbrev rmX11_rules : Room := { frames := 10, cells := 0, slots := 0, locals := 215 }
def fX11_rules_192 : Nat → GS → Int32 → Option (Int32 × GS)
  | 0, _, _ => none
  | n + 1, S, a2 => (if (2 : Int32) ≤ a2 then glet (gsi S 54 7 (S.1 54 8)) fun S2 => glet (gsi S2 54 9 (S2.1 54 10)) fun S3 => (some ((S3.1 54 11), S3)) else (if gib ((2 : Int32) + a2) 4 = true then (if gib a2 4 = true then glet (gsi S 58 (a2.toNatClampNeg) (S.1 58 (((2 : Int32) + a2)).toNatClampNeg)) fun S6 => glet (gsi S6 59 (a2.toNatClampNeg) (vp_nar .boolean (S6.1 59 (((2 : Int32) + a2)).toNatClampNeg))) fun S7 => glet (a2 + (1 : Int32)) fun v8 => (fX11_rules_192 n S7 v8) else none) else none))
set_option maxRecDepth 100000 in
set_option maxHeartbeats 4000000 in
theorem wX11_rules_192 {p : Program} {l : Launch} {e : Env} {s : State} {m : MethodId} {args : Array Value} {below : List Frame} {meth : Method} {c : Code} {E : GE} {res : (Int32 × GS)} (hc : GM E p s m args meth c RX11 cX11_rules 3 (some .int)) : ∀ (n : Nat), ∀ (S : GS) (a2 : Int32) (H : Heap) (locs : List Loc) (ls : Array Slot), lv_has ls 3 [(0, gR E 54), (2, .int a2)] → GX E S H locs → fX11_rules_192 n S a2 = some res → W p l e rmX11_rules s m args below meth c H locs 0 0 (gZ E below args s (some (.int res.1)) res.2) (F0 m 192 ls []) := by
  obtain ⟨hx, hb, -, -, -, hown, hts, -, -⟩ := id hc
  intro n
  induction n with
  | zero => intro S a2 H locs ls hl hG h; cases h
  | succ n ih =>
    intro S a2 H locs ls hl hG h
    rw [fX11_rules_192] at h
    refine lv_iload_n hx hb dX11_rules_192 rfl (lv_at hl 1 rfl) ?_
    refine lv_iconst (v := (2 : Int32)) hx hb dX11_rules_193 (by decide) ?_
    refine lv_icmp_ge (tgt := 231) hx hb dX11_rules_194 (by decide) (fun c1 => ?_) (fun c1 => ?_)
    · have h := g_pos c1 h
      refine lv_aload_n hx hb dX11_rules_231 rfl (lv_at hl 0 rfl) ?_
      refine lv_aload_n hx hb dX11_rules_232 rfl (lv_at hl 0 rfl) ?_
      refine g_getI hc hG 54 flX11_177 rfl rfl dX11_rules_233 ?_
      refine g_putI hc hG 54 fpX11_26 rfl rfl rfl rfl dX11_rules_236 (fun S2 H locs eS2 hG => ?_)
      have h := g_let eS2 h
      refine lv_aload_n hx hb dX11_rules_239 rfl (lv_at hl 0 rfl) ?_
      refine lv_aload_n hx hb dX11_rules_240 rfl (lv_at hl 0 rfl) ?_
      refine g_getI hc hG 54 flX11_192 rfl rfl dX11_rules_241 ?_
      refine g_putI hc hG 54 fpX11_234 rfl rfl rfl rfl dX11_rules_244 (fun S3 H locs eS3 hG => ?_)
      have h := g_let eS3 h
      refine lv_aload_n hx hb dX11_rules_247 rfl (lv_at hl 0 rfl) ?_
      refine g_getI hc hG 54 flX11_189 rfl rfl dX11_rules_248 ?_
      exact g_iret hc hG dX11_rules_251 h
    · have h := g_neg c1 h
      refine lv_aload_n hx hb dX11_rules_197 rfl (lv_at hl 0 rfl) ?_
      refine g_getR hc hG 54 58 flX11_19 rfl rfl rfl dX11_rules_198 ?_
      refine lv_iload_n hx hb dX11_rules_201 rfl (lv_at hl 1 rfl) ?_
      refine lv_aload_n hx hb dX11_rules_202 rfl (lv_at hl 0 rfl) ?_
      refine g_getR hc hG 54 58 flX11_19 rfl rfl rfl dX11_rules_203 ?_
      refine lv_iconst (v := (2 : Int32)) hx hb dX11_rules_206 (by decide) ?_
      refine lv_iload_n hx hb dX11_rules_207 rfl (lv_at hl 1 rfl) ?_
      refine lv_iadd hx hb dX11_rules_208 ?_
      obtain ⟨hi4, h⟩ := g_if h
      refine g_iald hc hG 58 4 ((((2 : Int32) + a2)).toNatClampNeg) rfl rfl hi4 rfl dX11_rules_209 ?_
      obtain ⟨hi5, h⟩ := g_if h
      refine g_iast hc hG 58 4 (a2.toNatClampNeg) rfl rfl hi5 rfl dX11_rules_210 (fun S6 H locs eS6 hG => ?_)
      have h := g_let eS6 h
      refine lv_aload_n hx hb dX11_rules_211 rfl (lv_at hl 0 rfl) ?_
      refine g_getR hc hG 54 59 flX11_22 rfl rfl rfl dX11_rules_212 ?_
      refine lv_iload_n hx hb dX11_rules_215 rfl (lv_at hl 1 rfl) ?_
      refine lv_aload_n hx hb dX11_rules_216 rfl (lv_at hl 0 rfl) ?_
      refine g_getR hc hG 54 59 flX11_22 rfl rfl rfl dX11_rules_217 ?_
      refine lv_iconst (v := (2 : Int32)) hx hb dX11_rules_220 (by decide) ?_
      refine lv_iload_n hx hb dX11_rules_221 rfl (lv_at hl 1 rfl) ?_
      refine lv_iadd hx hb dX11_rules_222 ?_
      refine g_zald hc hG 59 4 ((((2 : Int32) + a2)).toNatClampNeg) rfl rfl hi4 rfl dX11_rules_223 ?_
      refine g_zast hc hG 59 4 (a2.toNatClampNeg) rfl rfl hi5 rfl dX11_rules_224 (fun S7 H locs eS7 hG => ?_)
      have h := g_let eS7 h
      obtain ⟨v8, ev8⟩ : ∃ y : Int32, y = (a2 + (1 : Int32)) := ⟨_, rfl⟩
      have h := g_let ev8 h
      refine lv_iinc (v := v8) (lv' := [(2, .int v8), (0, gR E 54)]) hx hb dX11_rules_225 hl (k := 1) rfl (by rw [ev8]; rfl) (by decide) rfl (fun ls hl => ?_)
      refine lv_goto (tgt := 192) hx hb dX11_rules_228 (by decide) ?_
      exact ih S7 v8 _ _ _ (lv_sub hl [1, 0] rfl) hG h
def fX11_rules_145 : Nat → GS → Int32 → Option (Int32 × GS)
  | 0, _, _ => none
  | n + 1, S, a2 => (if (128 : Int32) ≤ a2 then glet (0 : Int32) fun v2 => (fX11_rules_192 FU S v2) else (if gib ((128 : Int32) + a2) 256 = true then (if gib a2 256 = true then glet (gsi S 56 (a2.toNatClampNeg) (S.1 56 (((128 : Int32) + a2)).toNatClampNeg)) fun S5 => glet (gsi S5 57 (a2.toNatClampNeg) (S5.1 57 (((128 : Int32) + a2)).toNatClampNeg)) fun S6 => glet (a2 + (1 : Int32)) fun v7 => (fX11_rules_145 n S6 v7) else none) else none))
set_option maxRecDepth 100000 in
set_option maxHeartbeats 4000000 in
theorem wX11_rules_145 {p : Program} {l : Launch} {e : Env} {s : State} {m : MethodId} {args : Array Value} {below : List Frame} {meth : Method} {c : Code} {E : GE} {res : (Int32 × GS)} (hc : GM E p s m args meth c RX11 cX11_rules 3 (some .int)) : ∀ (n : Nat), ∀ (S : GS) (a2 : Int32) (H : Heap) (locs : List Loc) (ls : Array Slot), lv_has ls 3 [(0, gR E 54), (2, .int a2)] → GX E S H locs → fX11_rules_145 n S a2 = some res → W p l e rmX11_rules s m args below meth c H locs 0 0 (gZ E below args s (some (.int res.1)) res.2) (F0 m 145 ls []) := by
  obtain ⟨hx, hb, -, -, -, hown, hts, -, -⟩ := id hc
  intro n
  induction n with
  | zero => intro S a2 H locs ls hl hG h; cases h
  | succ n ih =>
    intro S a2 H locs ls hl hG h
    rw [fX11_rules_145] at h
    refine lv_iload_n hx hb dX11_rules_145 rfl (lv_at hl 1 rfl) ?_
    refine lv_sipush (v := (128 : Int32)) hx hb dX11_rules_146 (by decide) ?_
    refine lv_icmp_ge (tgt := 190) hx hb dX11_rules_149 (by decide) (fun c1 => ?_) (fun c1 => ?_)
    · have h := g_pos c1 h
      refine lv_iconst (v := (0 : Int32)) hx hb dX11_rules_190 (by decide) ?_
      refine lv_topi (fun v2 ev2 => ?_)
      have h := g_let ev2 h
      refine lv_istore_n (lv' := [(2, .int v2), (0, gR E 54)]) hx hb dX11_rules_191 rfl hl (by decide) rfl (fun ls hl => ?_)
      exact wX11_rules_192 hc FU S v2 _ _ _ (lv_sub hl [1, 0] rfl) hG h
    · have h := g_neg c1 h
      refine lv_aload_n hx hb dX11_rules_152 rfl (lv_at hl 0 rfl) ?_
      refine g_getR hc hG 54 56 flX11_13 rfl rfl rfl dX11_rules_153 ?_
      refine lv_iload_n hx hb dX11_rules_156 rfl (lv_at hl 1 rfl) ?_
      refine lv_aload_n hx hb dX11_rules_157 rfl (lv_at hl 0 rfl) ?_
      refine g_getR hc hG 54 56 flX11_13 rfl rfl rfl dX11_rules_158 ?_
      refine lv_sipush (v := (128 : Int32)) hx hb dX11_rules_161 (by decide) ?_
      refine lv_iload_n hx hb dX11_rules_164 rfl (lv_at hl 1 rfl) ?_
      refine lv_iadd hx hb dX11_rules_165 ?_
      obtain ⟨hi3, h⟩ := g_if h
      refine g_iald hc hG 56 256 ((((128 : Int32) + a2)).toNatClampNeg) rfl rfl hi3 rfl dX11_rules_166 ?_
      obtain ⟨hi4, h⟩ := g_if h
      refine g_iast hc hG 56 256 (a2.toNatClampNeg) rfl rfl hi4 rfl dX11_rules_167 (fun S5 H locs eS5 hG => ?_)
      have h := g_let eS5 h
      refine lv_aload_n hx hb dX11_rules_168 rfl (lv_at hl 0 rfl) ?_
      refine g_getR hc hG 54 57 flX11_16 rfl rfl rfl dX11_rules_169 ?_
      refine lv_iload_n hx hb dX11_rules_172 rfl (lv_at hl 1 rfl) ?_
      refine lv_aload_n hx hb dX11_rules_173 rfl (lv_at hl 0 rfl) ?_
      refine g_getR hc hG 54 57 flX11_16 rfl rfl rfl dX11_rules_174 ?_
      refine lv_sipush (v := (128 : Int32)) hx hb dX11_rules_177 (by decide) ?_
      refine lv_iload_n hx hb dX11_rules_180 rfl (lv_at hl 1 rfl) ?_
      refine lv_iadd hx hb dX11_rules_181 ?_
      refine g_iald hc hG 57 256 ((((128 : Int32) + a2)).toNatClampNeg) rfl rfl hi3 rfl dX11_rules_182 ?_
      refine g_iast hc hG 57 256 (a2.toNatClampNeg) rfl rfl hi4 rfl dX11_rules_183 (fun S6 H locs eS6 hG => ?_)
      have h := g_let eS6 h
      obtain ⟨v7, ev7⟩ : ∃ y : Int32, y = (a2 + (1 : Int32)) := ⟨_, rfl⟩
      have h := g_let ev7 h
      refine lv_iinc (v := v7) (lv' := [(2, .int v7), (0, gR E 54)]) hx hb dX11_rules_184 hl (k := 1) rfl (by rw [ev7]; rfl) (by decide) rfl (fun ls hl => ?_)
      refine lv_goto (tgt := 145) hx hb dX11_rules_187 (by decide) ?_
      exact ih S6 v7 _ _ _ (lv_sub hl [1, 0] rfl) hG h
def fX11_rules_118 (S : GS) : Option (Int32 × GS) := glet (gsi S 54 20 (S.1 54 18)) fun S1 => glet (gsi S1 54 21 (S1.1 54 19)) fun S2 => (if (S2.1 54 18) = 0 then glet (0 : Int32) fun v4 => (fX11_rules_145 FU S2 v4) else (some ((-1 : Int32), S2)))
set_option maxRecDepth 100000 in
set_option maxHeartbeats 4000000 in
theorem wX11_rules_118 {p : Program} {l : Launch} {e : Env} {s : State} {m : MethodId} {args : Array Value} {below : List Frame} {meth : Method} {c : Code} {E : GE} {res : (Int32 × GS)} (hc : GM E p s m args meth c RX11 cX11_rules 3 (some .int)) : ∀ (S : GS) (H : Heap) (locs : List Loc) (ls : Array Slot), lv_has ls 3 [(0, gR E 54)] → GX E S H locs → fX11_rules_118 S = some res → W p l e rmX11_rules s m args below meth c H locs 0 0 (gZ E below args s (some (.int res.1)) res.2) (F0 m 118 ls []) := by
  obtain ⟨hx, hb, -, -, -, hown, hts, -, -⟩ := id hc
  intro S H locs ls hl hG h
  unfold fX11_rules_118 at h
  refine lv_aload_n hx hb dX11_rules_118 rfl (lv_at hl 0 rfl) ?_
  refine lv_aload_n hx hb dX11_rules_119 rfl (lv_at hl 0 rfl) ?_
  refine g_getI hc hG 54 flX11_161 rfl rfl dX11_rules_120 ?_
  refine g_putI hc hG 54 fpX11_231 rfl rfl rfl rfl dX11_rules_123 (fun S1 H locs eS1 hG => ?_)
  have h := g_let eS1 h
  refine lv_aload_n hx hb dX11_rules_126 rfl (lv_at hl 0 rfl) ?_
  refine lv_aload_n hx hb dX11_rules_127 rfl (lv_at hl 0 rfl) ?_
  refine g_getI hc hG 54 flX11_164 rfl rfl dX11_rules_128 ?_
  refine g_putI hc hG 54 fpX11_30 rfl rfl rfl rfl dX11_rules_131 (fun S2 H locs eS2 hG => ?_)
  have h := g_let eS2 h
  refine lv_aload_n hx hb dX11_rules_134 rfl (lv_at hl 0 rfl) ?_
  refine g_getI hc hG 54 flX11_161 rfl rfl dX11_rules_135 ?_
  refine lv_if_eq (tgt := 143) hx hb dX11_rules_138 (by decide) (fun c3 => ?_) (fun c3 => ?_)
  · have h := g_pos c3 h
    refine lv_iconst (v := (0 : Int32)) hx hb dX11_rules_143 (by decide) ?_
    refine lv_topi (fun v4 ev4 => ?_)
    have h := g_let ev4 h
    refine lv_istore_n (lv' := [(2, .int v4), (0, gR E 54)]) hx hb dX11_rules_144 rfl hl (by decide) rfl (fun ls hl => ?_)
    exact wX11_rules_145 hc FU S2 v4 _ _ _ (lv_sub hl [1, 0] rfl) hG h
  · have h := g_neg c3 h
    refine lv_iconst (v := (-1 : Int32)) hx hb dX11_rules_141 (by decide) ?_
    exact g_iret hc hG dX11_rules_142 h
def fX11_rules_96 : Nat → GS → Option (Int32 × GS)
  | 0, _ => none
  | n + 1, S => (if (S.1 54 18) = 0 then (if (S.1 54 16) = (3 : Int32) then (fX11_rules_118 S) else gbd (fX11_lineOf S) fun r4 S5 => (fX11_rules_96 n S5)) else (fX11_rules_118 S))
set_option maxRecDepth 100000 in
set_option maxHeartbeats 4000000 in
theorem wX11_rules_96 {p : Program} {l : Launch} {e : Env} {s : State} {m : MethodId} {args : Array Value} {below : List Frame} {meth : Method} {c : Code} {E : GE} {res : (Int32 × GS)} (hc : GM E p s m args meth c RX11 cX11_rules 3 (some .int)) : ∀ (n : Nat), ∀ (S : GS) (H : Heap) (locs : List Loc) (ls : Array Slot), lv_has ls 3 [(0, gR E 54)] → GX E S H locs → fX11_rules_96 n S = some res → W p l e rmX11_rules s m args below meth c H locs 0 0 (gZ E below args s (some (.int res.1)) res.2) (F0 m 96 ls []) := by
  obtain ⟨hx, hb, -, -, -, hown, hts, -, -⟩ := id hc
  intro n
  induction n with
  | zero => intro S H locs ls hl hG h; cases h
  | succ n ih =>
    intro S H locs ls hl hG h
    rw [fX11_rules_96] at h
    refine lv_aload_n hx hb dX11_rules_96 rfl (lv_at hl 0 rfl) ?_
    refine g_getI hc hG 54 flX11_161 rfl rfl dX11_rules_97 ?_
    refine lv_if_ne (tgt := 118) hx hb dX11_rules_100 (by decide) (fun c1 => ?_) (fun c1 => ?_)
    · have h := g_neg c1 h
      exact wX11_rules_118 hc S _ _ _ (lv_sub hl [0] rfl) hG h
    · have h := g_pos c1 h
      refine lv_aload_n hx hb dX11_rules_103 rfl (lv_at hl 0 rfl) ?_
      refine g_getI hc hG 54 flX11_134 rfl rfl dX11_rules_104 ?_
      refine lv_iconst (v := (3 : Int32)) hx hb dX11_rules_107 (by decide) ?_
      refine lv_icmp_eq (tgt := 118) hx hb dX11_rules_108 (by decide) (fun c2 => ?_) (fun c2 => ?_)
      · have h := g_pos c2 h
        exact wX11_rules_118 hc S _ _ _ (lv_sub hl [0] rfl) hG h
      · have h := g_neg c2 h
        refine lv_aload_n hx hb dX11_rules_111 rfl (lv_at hl 0 rfl) ?_
        obtain ⟨r4, S5, hm3, h⟩ := g_bd h
        refine g_callVv (As := []) hc hG (mX11_lineOf l E hm3) mlX11_228 mcX11_lineOf miX11_lineOf rfl rfl rfl rfl hl.1 rfl rfl ⟨by decide, by decide⟩ (Nat.le_of_ble_eq_true rfl) ⟨by decide, by decide⟩ dX11_rules_112 rfl (fun H locs hG => ?_)
        refine lv_goto (tgt := 96) hx hb dX11_rules_115 (by decide) ?_
        exact ih S5 _ _ _ (lv_sub hl [0] rfl) hG h
def fX11_rules_67 : Nat → GS → Int32 → Option (Int32 × GS)
  | 0, _, _ => none
  | n + 1, S, a2 => (if (4 : Int32) ≤ a2 then gbd (fX11_next S) fun r3 S4 => (fX11_rules_96 FU S4) else (if gib a2 4 = true then glet (gsi S 58 (a2.toNatClampNeg) (0 : Int32)) fun S6 => glet (gsi S6 59 (a2.toNatClampNeg) (vp_nar .boolean (0 : Int32))) fun S7 => glet (a2 + (1 : Int32)) fun v8 => (fX11_rules_67 n S7 v8) else none))
set_option maxRecDepth 100000 in
set_option maxHeartbeats 4000000 in
theorem wX11_rules_67 {p : Program} {l : Launch} {e : Env} {s : State} {m : MethodId} {args : Array Value} {below : List Frame} {meth : Method} {c : Code} {E : GE} {res : (Int32 × GS)} (hc : GM E p s m args meth c RX11 cX11_rules 3 (some .int)) : ∀ (n : Nat), ∀ (S : GS) (a2 : Int32) (H : Heap) (locs : List Loc) (ls : Array Slot), lv_has ls 3 [(0, gR E 54), (2, .int a2)] → GX E S H locs → fX11_rules_67 n S a2 = some res → W p l e rmX11_rules s m args below meth c H locs 0 0 (gZ E below args s (some (.int res.1)) res.2) (F0 m 67 ls []) := by
  obtain ⟨hx, hb, -, -, -, hown, hts, -, -⟩ := id hc
  intro n
  induction n with
  | zero => intro S a2 H locs ls hl hG h; cases h
  | succ n ih =>
    intro S a2 H locs ls hl hG h
    rw [fX11_rules_67] at h
    refine lv_iload_n hx hb dX11_rules_67 rfl (lv_at hl 1 rfl) ?_
    refine lv_iconst (v := (4 : Int32)) hx hb dX11_rules_68 (by decide) ?_
    refine lv_icmp_ge (tgt := 92) hx hb dX11_rules_69 (by decide) (fun c1 => ?_) (fun c1 => ?_)
    · have h := g_pos c1 h
      refine lv_aload_n hx hb dX11_rules_92 rfl (lv_at hl 0 rfl) ?_
      obtain ⟨r3, S4, hm2, h⟩ := g_bd h
      refine g_callVv (As := []) hc hG (mX11_next l E hm2) mlX11_174 mcX11_next miX11_next rfl rfl rfl rfl hl.1 rfl rfl ⟨by decide, by decide⟩ (Nat.le_of_ble_eq_true rfl) ⟨by decide, by decide⟩ dX11_rules_93 rfl (fun H locs hG => ?_)
      exact wX11_rules_96 hc FU S4 _ _ _ (lv_sub hl [0] rfl) hG h
    · have h := g_neg c1 h
      refine lv_aload_n hx hb dX11_rules_72 rfl (lv_at hl 0 rfl) ?_
      refine g_getR hc hG 54 58 flX11_19 rfl rfl rfl dX11_rules_73 ?_
      refine lv_iload_n hx hb dX11_rules_76 rfl (lv_at hl 1 rfl) ?_
      refine lv_iconst (v := (0 : Int32)) hx hb dX11_rules_77 (by decide) ?_
      obtain ⟨hi5, h⟩ := g_if h
      refine g_iast hc hG 58 4 (a2.toNatClampNeg) rfl rfl hi5 rfl dX11_rules_78 (fun S6 H locs eS6 hG => ?_)
      have h := g_let eS6 h
      refine lv_aload_n hx hb dX11_rules_79 rfl (lv_at hl 0 rfl) ?_
      refine g_getR hc hG 54 59 flX11_22 rfl rfl rfl dX11_rules_80 ?_
      refine lv_iload_n hx hb dX11_rules_83 rfl (lv_at hl 1 rfl) ?_
      refine lv_iconst (v := (0 : Int32)) hx hb dX11_rules_84 (by decide) ?_
      refine g_zast hc hG 59 4 (a2.toNatClampNeg) rfl rfl hi5 rfl dX11_rules_85 (fun S7 H locs eS7 hG => ?_)
      have h := g_let eS7 h
      obtain ⟨v8, ev8⟩ : ∃ y : Int32, y = (a2 + (1 : Int32)) := ⟨_, rfl⟩
      have h := g_let ev8 h
      refine lv_iinc (v := v8) (lv' := [(2, .int v8), (0, gR E 54)]) hx hb dX11_rules_86 hl (k := 1) rfl (by rw [ev8]; rfl) (by decide) rfl (fun ls hl => ?_)
      refine lv_goto (tgt := 67) hx hb dX11_rules_89 (by decide) ?_
      exact ih S7 v8 _ _ _ (lv_sub hl [1, 0] rfl) hG h
def fX11_rules (S : GS) (a1 : Int32) : Option (Int32 × GS) := glet (gsi S 54 0 (0 : Int32)) fun S1 => (if a1 < 0 then (some ((-2 : Int32), S1)) else (if a1 ≤ (S1.1 54 2) then glet (gsi S1 54 13 a1) fun S4 => glet (gsi S4 54 2 (0 : Int32)) fun S5 => glet (gsi S5 54 14 (0 : Int32)) fun S6 => glet (gsi S6 54 18 (0 : Int32)) fun S7 => glet (gsi S7 54 19 (-1 : Int32)) fun S8 => glet (gsi S8 54 10 (0 : Int32)) fun S9 => glet (gsi S9 54 11 (0 : Int32)) fun S10 => glet (gsi S10 54 12 (0 : Int32)) fun S11 => glet (gsi S11 54 8 (2 : Int32)) fun S12 => glet (2 : Int32) fun v13 => (fX11_rules_67 FU S12 v13) else (some ((-2 : Int32), S1))))
set_option maxRecDepth 100000 in
set_option maxHeartbeats 4000000 in
theorem wX11_rules_0 {p : Program} {l : Launch} {e : Env} {s : State} {m : MethodId} {args : Array Value} {below : List Frame} {meth : Method} {c : Code} {E : GE} {res : (Int32 × GS)} (hc : GM E p s m args meth c RX11 cX11_rules 3 (some .int)) : ∀ (S : GS) (a1 : Int32) (H : Heap) (locs : List Loc) (ls : Array Slot), lv_has ls 3 [(0, gR E 54), (1, .int a1)] → GX E S H locs → fX11_rules S a1 = some res → W p l e rmX11_rules s m args below meth c H locs 0 0 (gZ E below args s (some (.int res.1)) res.2) (F0 m 0 ls []) := by
  obtain ⟨hx, hb, -, -, -, hown, hts, -, -⟩ := id hc
  intro S a1 H locs ls hl hG h
  unfold fX11_rules at h
  refine lv_aload_n hx hb dX11_rules_0 rfl (lv_at hl 0 rfl) ?_
  refine lv_iconst (v := (0 : Int32)) hx hb dX11_rules_1 (by decide) ?_
  refine g_putI hc hG 54 fpX11_115 rfl rfl rfl rfl dX11_rules_2 (fun S1 H locs eS1 hG => ?_)
  have h := g_let eS1 h
  refine lv_iload_n hx hb dX11_rules_5 rfl (lv_at hl 1 rfl) ?_
  refine lv_if_lt (tgt := 17) hx hb dX11_rules_6 (by decide) (fun c2 => ?_) (fun c2 => ?_)
  · have h := g_pos c2 h
    refine lv_bipush (v := (-2 : Int32)) hx hb dX11_rules_17 (by decide) ?_
    exact g_iret hc hG dX11_rules_19 h
  · have h := g_neg c2 h
    refine lv_iload_n hx hb dX11_rules_9 rfl (lv_at hl 1 rfl) ?_
    refine lv_aload_n hx hb dX11_rules_10 rfl (lv_at hl 0 rfl) ?_
    refine g_getI hc hG 54 flX11_118 rfl rfl dX11_rules_11 ?_
    refine lv_icmp_le (tgt := 20) hx hb dX11_rules_14 (by decide) (fun c3 => ?_) (fun c3 => ?_)
    · have h := g_pos c3 h
      refine lv_aload_n hx hb dX11_rules_20 rfl (lv_at hl 0 rfl) ?_
      refine lv_iload_n hx hb dX11_rules_21 rfl (lv_at hl 1 rfl) ?_
      refine g_putI hc hG 54 fpX11_124 rfl rfl rfl rfl dX11_rules_22 (fun S4 H locs eS4 hG => ?_)
      have h := g_let eS4 h
      refine lv_aload_n hx hb dX11_rules_25 rfl (lv_at hl 0 rfl) ?_
      refine lv_iconst (v := (0 : Int32)) hx hb dX11_rules_26 (by decide) ?_
      refine g_putI hc hG 54 fpX11_118 rfl rfl rfl rfl dX11_rules_27 (fun S5 H locs eS5 hG => ?_)
      have h := g_let eS5 h
      refine lv_aload_n hx hb dX11_rules_30 rfl (lv_at hl 0 rfl) ?_
      refine lv_iconst (v := (0 : Int32)) hx hb dX11_rules_31 (by decide) ?_
      refine g_putI hc hG 54 fpX11_121 rfl rfl rfl rfl dX11_rules_32 (fun S6 H locs eS6 hG => ?_)
      have h := g_let eS6 h
      refine lv_aload_n hx hb dX11_rules_35 rfl (lv_at hl 0 rfl) ?_
      refine lv_iconst (v := (0 : Int32)) hx hb dX11_rules_36 (by decide) ?_
      refine g_putI hc hG 54 fpX11_161 rfl rfl rfl rfl dX11_rules_37 (fun S7 H locs eS7 hG => ?_)
      have h := g_let eS7 h
      refine lv_aload_n hx hb dX11_rules_40 rfl (lv_at hl 0 rfl) ?_
      refine lv_iconst (v := (-1 : Int32)) hx hb dX11_rules_41 (by decide) ?_
      refine g_putI hc hG 54 fpX11_164 rfl rfl rfl rfl dX11_rules_42 (fun S8 H locs eS8 hG => ?_)
      have h := g_let eS8 h
      refine lv_aload_n hx hb dX11_rules_45 rfl (lv_at hl 0 rfl) ?_
      refine lv_iconst (v := (0 : Int32)) hx hb dX11_rules_46 (by decide) ?_
      refine g_putI hc hG 54 fpX11_192 rfl rfl rfl rfl dX11_rules_47 (fun S9 H locs eS9 hG => ?_)
      have h := g_let eS9 h
      refine lv_aload_n hx hb dX11_rules_50 rfl (lv_at hl 0 rfl) ?_
      refine lv_iconst (v := (0 : Int32)) hx hb dX11_rules_51 (by decide) ?_
      refine g_putI hc hG 54 fpX11_189 rfl rfl rfl rfl dX11_rules_52 (fun S10 H locs eS10 hG => ?_)
      have h := g_let eS10 h
      refine lv_aload_n hx hb dX11_rules_55 rfl (lv_at hl 0 rfl) ?_
      refine lv_iconst (v := (0 : Int32)) hx hb dX11_rules_56 (by decide) ?_
      refine g_putI hc hG 54 fpX11_171 rfl rfl rfl rfl dX11_rules_57 (fun S11 H locs eS11 hG => ?_)
      have h := g_let eS11 h
      refine lv_aload_n hx hb dX11_rules_60 rfl (lv_at hl 0 rfl) ?_
      refine lv_iconst (v := (2 : Int32)) hx hb dX11_rules_61 (by decide) ?_
      refine g_putI hc hG 54 fpX11_177 rfl rfl rfl rfl dX11_rules_62 (fun S12 H locs eS12 hG => ?_)
      have h := g_let eS12 h
      refine lv_iconst (v := (2 : Int32)) hx hb dX11_rules_65 (by decide) ?_
      refine lv_topi (fun v13 ev13 => ?_)
      have h := g_let ev13 h
      refine lv_istore_n (lv' := [(2, .int v13), (0, gR E 54), (1, .int a1)]) hx hb dX11_rules_66 rfl hl (by decide) rfl (fun ls hl => ?_)
      exact wX11_rules_67 hc FU S12 v13 _ _ _ (lv_sub hl [1, 0] rfl) hG h
    · have h := g_neg c3 h
      refine lv_bipush (v := (-2 : Int32)) hx hb dX11_rules_17 (by decide) ?_
      exact g_iret hc hG dX11_rules_19 h
theorem mX11_rules (l : Launch) (E : GE) {S : GS} {a1 : Int32} {res : (Int32 × GS)} (h : fX11_rules S a1 = some res) : gMet l E yX11_rules cX11_rules 3 (some .int) rmX11_rules [gR E 54, .int a1] S (some (.int res.1)) res.2 :=
  g_met (by decide) (Nat.le_of_ble_eq_true rfl) rfl fun p e s m below meth c H ls hc hG hl => wX11_rules_0 hc S a1 H [] ls hl hG h
abbrev rmX11_fault : Room := { frames := 0, cells := 0, slots := 0, locals := 0 }
def fX11_fault (S : GS) (a1 : Int32) : Option (Int32 × GS) := glet (gsi S 54 0 (0 : Int32)) fun S1 => (if a1 = 0 then (some ((S1.1 54 20), S1)) else (if a1 = (1 : Int32) then (some ((S1.1 54 21), S1)) else (some ((-1 : Int32), S1))))
set_option maxRecDepth 100000 in
set_option maxHeartbeats 4000000 in
theorem wX11_fault_0 {p : Program} {l : Launch} {e : Env} {s : State} {m : MethodId} {args : Array Value} {below : List Frame} {meth : Method} {c : Code} {E : GE} {res : (Int32 × GS)} (hc : GM E p s m args meth c RX11 cX11_fault 2 (some .int)) : ∀ (S : GS) (a1 : Int32) (H : Heap) (locs : List Loc) (ls : Array Slot), lv_has ls 2 [(0, gR E 54), (1, .int a1)] → GX E S H locs → fX11_fault S a1 = some res → W p l e rmX11_fault s m args below meth c H locs 0 0 (gZ E below args s (some (.int res.1)) res.2) (F0 m 0 ls []) := by
  obtain ⟨hx, hb, -, -, -, hown, hts, -, -⟩ := id hc
  intro S a1 H locs ls hl hG h
  unfold fX11_fault at h
  refine lv_aload_n hx hb dX11_fault_0 rfl (lv_at hl 0 rfl) ?_
  refine lv_iconst (v := (0 : Int32)) hx hb dX11_fault_1 (by decide) ?_
  refine g_putI hc hG 54 fpX11_115 rfl rfl rfl rfl dX11_fault_2 (fun S1 H locs eS1 hG => ?_)
  have h := g_let eS1 h
  refine lv_iload_n hx hb dX11_fault_5 rfl (lv_at hl 1 rfl) ?_
  refine lv_if_ne (tgt := 16) hx hb dX11_fault_6 (by decide) (fun c2 => ?_) (fun c2 => ?_)
  · have h := g_neg c2 h
    refine lv_iload_n hx hb dX11_fault_16 rfl (lv_at hl 1 rfl) ?_
    refine lv_iconst (v := (1 : Int32)) hx hb dX11_fault_17 (by decide) ?_
    refine lv_icmp_ne (tgt := 28) hx hb dX11_fault_18 (by decide) (fun c3 => ?_) (fun c3 => ?_)
    · have h := g_neg c3 h
      refine lv_iconst (v := (-1 : Int32)) hx hb dX11_fault_28 (by decide) ?_
      exact g_iret hc hG dX11_fault_29 h
    · have h := g_pos c3 h
      refine lv_aload_n hx hb dX11_fault_21 rfl (lv_at hl 0 rfl) ?_
      refine g_getI hc hG 54 flX11_30 rfl rfl dX11_fault_22 ?_
      refine lv_goto (tgt := 29) hx hb dX11_fault_25 (by decide) ?_
      exact g_iret hc hG dX11_fault_29 h
  · have h := g_pos c2 h
    refine lv_aload_n hx hb dX11_fault_9 rfl (lv_at hl 0 rfl) ?_
    refine g_getI hc hG 54 flX11_231 rfl rfl dX11_fault_10 ?_
    refine lv_goto (tgt := 29) hx hb dX11_fault_13 (by decide) ?_
    exact g_iret hc hG dX11_fault_29 h
theorem mX11_fault (l : Launch) (E : GE) {S : GS} {a1 : Int32} {res : (Int32 × GS)} (h : fX11_fault S a1 = some res) : gMet l E yX11_fault cX11_fault 2 (some .int) rmX11_fault [gR E 54, .int a1] S (some (.int res.1)) res.2 :=
  g_met (by decide) (Nat.le_of_ble_eq_true rfl) rfl fun p e s m below meth c H ls hc hG hl => wX11_fault_0 hc S a1 H [] ls hl hG h
abbrev rmX11_puts : Room := { frames := 0, cells := 0, slots := 0, locals := 0 }
def fX11_puts (S : GS) (a1 : Int64) : Option (Int32 × GS) := (if gib (S.1 54 28) 72 = true then glet (gsl S 62 (((S.1 54 28)).toNatClampNeg) a1) fun S2 => glet (gsi S2 54 28 ((S2.1 54 28) + (1 : Int32))) fun S3 => (if 0 < (lg_cmp a1 (1000000000000 : Int64)) then (some ((0 : Int32), S3)) else (if (lg_cmp a1 (-1000000000000 : Int64)) < 0 then (some ((0 : Int32), S3)) else (some ((1 : Int32), S3)))) else none)
set_option maxRecDepth 100000 in
set_option maxHeartbeats 4000000 in
theorem wX11_puts_0 {p : Program} {l : Launch} {e : Env} {s : State} {m : MethodId} {args : Array Value} {below : List Frame} {meth : Method} {c : Code} {E : GE} {res : (Int32 × GS)} (hc : GM E p s m args meth c RX11 cX11_puts 3 (some .boolean)) : ∀ (S : GS) (a1 : Int64) (H : Heap) (locs : List Loc) (ls : Array Slot), lv_has ls 3 [(0, gR E 54), (1, .long a1)] → GX E S H locs → fX11_puts S a1 = some res → W p l e rmX11_puts s m args below meth c H locs 0 0 (gZ E below args s (some (.int res.1)) res.2) (F0 m 0 ls []) := by
  obtain ⟨hx, hb, -, -, -, hown, hts, -, -⟩ := id hc
  intro S a1 H locs ls hl hG h
  unfold fX11_puts at h
  refine lv_aload_n hx hb dX11_puts_0 rfl (lv_at hl 0 rfl) ?_
  refine g_getR hc hG 54 62 flX11_40 rfl rfl rfl dX11_puts_1 ?_
  refine lv_aload_n hx hb dX11_puts_4 rfl (lv_at hl 0 rfl) ?_
  refine g_getI hc hG 54 flX11_237 rfl rfl dX11_puts_5 ?_
  refine lv_lload_n hx hb dX11_puts_8 rfl (lv_at hl 1 rfl) ?_
  obtain ⟨hi1, h⟩ := g_if h
  refine g_last hc hG 62 72 (((S.1 54 28)).toNatClampNeg) rfl rfl hi1 rfl dX11_puts_9 (fun S2 H locs eS2 hG => ?_)
  have h := g_let eS2 h
  refine lv_aload_n hx hb dX11_puts_10 rfl (lv_at hl 0 rfl) ?_
  refine lv_dup hx hb dX11_puts_11 rfl ?_
  refine g_getI hc hG 54 flX11_237 rfl rfl dX11_puts_12 ?_
  refine lv_iconst (v := (1 : Int32)) hx hb dX11_puts_15 (by decide) ?_
  refine lv_iadd hx hb dX11_puts_16 ?_
  refine g_putI hc hG 54 fpX11_237 rfl rfl rfl rfl dX11_puts_17 (fun S3 H locs eS3 hG => ?_)
  have h := g_let eS3 h
  refine lv_lload_n hx hb dX11_puts_20 rfl (lv_at hl 1 rfl) ?_
  refine lv_ldc2 (v := (1000000000000 : Int64)) hx hb hown (hts _ kcX11_240) dX11_puts_21 ?_
  refine W.lcmp hx hb dX11_puts_24 ?_
  refine lv_if_gt (tgt := 40) hx hb dX11_puts_25 (by decide) (fun c4 => ?_) (fun c4 => ?_)
  · have h := g_pos c4 h
    refine lv_iconst (v := (0 : Int32)) hx hb dX11_puts_40 (by decide) ?_
    exact g_zret hc hG (Or.inl rfl) dX11_puts_41 h
  · have h := g_neg c4 h
    refine lv_lload_n hx hb dX11_puts_28 rfl (lv_at hl 1 rfl) ?_
    refine lv_ldc2 (v := (-1000000000000 : Int64)) hx hb hown (hts _ kcX11_242) dX11_puts_29 ?_
    refine W.lcmp hx hb dX11_puts_32 ?_
    refine lv_if_lt (tgt := 40) hx hb dX11_puts_33 (by decide) (fun c5 => ?_) (fun c5 => ?_)
    · have h := g_pos c5 h
      refine lv_iconst (v := (0 : Int32)) hx hb dX11_puts_40 (by decide) ?_
      exact g_zret hc hG (Or.inl rfl) dX11_puts_41 h
    · have h := g_neg c5 h
      refine lv_iconst (v := (1 : Int32)) hx hb dX11_puts_36 (by decide) ?_
      refine lv_goto (tgt := 41) hx hb dX11_puts_37 (by decide) ?_
      exact g_zret hc hG (Or.inr rfl) dX11_puts_41 h
theorem mX11_puts (l : Launch) (E : GE) {S : GS} {a1 : Int64} {res : (Int32 × GS)} (h : fX11_puts S a1 = some res) : gMet l E yX11_puts cX11_puts 3 (some .boolean) rmX11_puts [gR E 54, .long a1] S (some (.int res.1)) res.2 :=
  g_met (by decide) (Nat.le_of_ble_eq_true rfl) rfl fun p e s m below meth c H ls hc hG hl => wX11_puts_0 hc S a1 H [] ls hl hG h

abbrev rmX11_isAsked : Room := { frames := 1, cells := 0, slots := 0, locals := 21 }
def fX11_isAsked (S : GS) (a1 : Int32) (a2 : Int32) (a3 : Int32) (a4 : Int32) : Option Int32 := gbv (fX11_isCourt S a1) fun r2 => (if r2 = 0 then (some (0 : Int32)) else gbv (fX11_isFacts S a2) fun r5 => (if r5 = 0 then (some (0 : Int32)) else gbv (fX11_isDay S a3) fun r8 => (if r8 = 0 then (some (0 : Int32)) else gbv (fX11_isDay S a4) fun r11 => (if r11 = 0 then (some (0 : Int32)) else (some (1 : Int32))))))
set_option maxRecDepth 100000 in
set_option maxHeartbeats 4000000 in
theorem wX11_isAsked_0 {p : Program} {l : Launch} {e : Env} {s : State} {m : MethodId} {args : Array Value} {below : List Frame} {meth : Method} {c : Code} {E : GE} {res : Int32} (hc : GM E p s m args meth c RX11 cX11_isAsked 5 (some .boolean)) : ∀ (S : GS) (a1 : Int32) (a2 : Int32) (a3 : Int32) (a4 : Int32) (H : Heap) (locs : List Loc) (ls : Array Slot), lv_has ls 5 [(0, gR E 54), (1, .int a1), (2, .int a2), (3, .int a3), (4, .int a4)] → GX E S H locs → fX11_isAsked S a1 a2 a3 a4 = some res → W p l e rmX11_isAsked s m args below meth c H locs 0 0 (gZ E below args s (some (.int res)) S) (F0 m 0 ls []) := by
  obtain ⟨hx, hb, -, -, -, hown, hts, -, -⟩ := id hc
  intro S a1 a2 a3 a4 H locs ls hl hG h
  unfold fX11_isAsked at h
  refine lv_aload_n hx hb dX11_isAsked_0 rfl (lv_at hl 0 rfl) ?_
  refine lv_iload_n hx hb dX11_isAsked_1 rfl (lv_at hl 1 rfl) ?_
  obtain ⟨r2, hm1, h⟩ := g_bv h
  refine g_callVi (As := [.int a1]) hc hG (mX11_isCourt l E hm1) mlX11_276 mcX11_isCourt miX11_isCourt rfl rfl rfl rfl hl.1 rfl rfl ⟨by decide, by decide⟩ (Nat.le_of_ble_eq_true rfl) ⟨by decide, by decide⟩ dX11_isAsked_2 rfl (fun H locs hG => ?_)
  refine lv_if_eq (tgt := 34) hx hb dX11_isAsked_5 (by decide) (fun c3 => ?_) (fun c3 => ?_)
  · have h := g_pos c3 h
    refine lv_iconst (v := (0 : Int32)) hx hb dX11_isAsked_34 (by decide) ?_
    exact g_zretp hc hG (Or.inl rfl) dX11_isAsked_35 h
  · have h := g_neg c3 h
    refine lv_iload_n hx hb dX11_isAsked_8 rfl (lv_at hl 2 rfl) ?_
    obtain ⟨r5, hm4, h⟩ := g_bv h
    refine g_callSi (As := [.int a2]) hc hG (mX11_isFacts l E hm4) mlX11_279 mcX11_isFacts msX11_isFacts rfl hl.1 rfl rfl ⟨by decide, by decide⟩ (Nat.le_of_ble_eq_true rfl) ⟨by decide, by decide⟩ dX11_isAsked_9 rfl (fun H locs hG => ?_)
    refine lv_if_eq (tgt := 34) hx hb dX11_isAsked_12 (by decide) (fun c6 => ?_) (fun c6 => ?_)
    · have h := g_pos c6 h
      refine lv_iconst (v := (0 : Int32)) hx hb dX11_isAsked_34 (by decide) ?_
      exact g_zretp hc hG (Or.inl rfl) dX11_isAsked_35 h
    · have h := g_neg c6 h
      refine lv_iload_n hx hb dX11_isAsked_15 rfl (lv_at hl 3 rfl) ?_
      obtain ⟨r8, hm7, h⟩ := g_bv h
      refine g_callSi (As := [.int a3]) hc hG (mX11_isDay l E hm7) mlX11_296 mcX11_isDay msX11_isDay rfl hl.1 rfl rfl ⟨by decide, by decide⟩ (Nat.le_of_ble_eq_true rfl) ⟨by decide, by decide⟩ dX11_isAsked_16 rfl (fun H locs hG => ?_)
      refine lv_if_eq (tgt := 34) hx hb dX11_isAsked_19 (by decide) (fun c9 => ?_) (fun c9 => ?_)
      · have h := g_pos c9 h
        refine lv_iconst (v := (0 : Int32)) hx hb dX11_isAsked_34 (by decide) ?_
        exact g_zretp hc hG (Or.inl rfl) dX11_isAsked_35 h
      · have h := g_neg c9 h
        refine lv_iload hx hb dX11_isAsked_22 (lv_at hl 4 rfl) ?_
        obtain ⟨r11, hm10, h⟩ := g_bv h
        refine g_callSi (As := [.int a4]) hc hG (mX11_isDay l E hm10) mlX11_296 mcX11_isDay msX11_isDay rfl hl.1 rfl rfl ⟨by decide, by decide⟩ (Nat.le_of_ble_eq_true rfl) ⟨by decide, by decide⟩ dX11_isAsked_24 rfl (fun H locs hG => ?_)
        refine lv_if_eq (tgt := 34) hx hb dX11_isAsked_27 (by decide) (fun c12 => ?_) (fun c12 => ?_)
        · have h := g_pos c12 h
          refine lv_iconst (v := (0 : Int32)) hx hb dX11_isAsked_34 (by decide) ?_
          exact g_zretp hc hG (Or.inl rfl) dX11_isAsked_35 h
        · have h := g_neg c12 h
          refine lv_iconst (v := (1 : Int32)) hx hb dX11_isAsked_30 (by decide) ?_
          refine lv_goto (tgt := 35) hx hb dX11_isAsked_31 (by decide) ?_
          exact g_zretp hc hG (Or.inr rfl) dX11_isAsked_35 h
theorem mX11_isAsked (l : Launch) (E : GE) {S : GS} {a1 : Int32} {a2 : Int32} {a3 : Int32} {a4 : Int32} {res : Int32} (h : fX11_isAsked S a1 a2 a3 a4 = some res) : gMet l E yX11_isAsked cX11_isAsked 5 (some .boolean) rmX11_isAsked [gR E 54, .int a1, .int a2, .int a3, .int a4] S (some (.int res)) S :=
  g_met (by decide) (Nat.le_of_ble_eq_true rfl) rfl fun p e s m below meth c H ls hc hG hl => wX11_isAsked_0 hc S a1 a2 a3 a4 H [] ls hl hG h
abbrev rmX11_stand : Room := { frames := 8, cells := 0, slots := 0, locals := 195 }
def fX11_stand (S : GS) (a1 : Int32) (a2 : Int32) (a3 : Int32) (a4 : Int32) (a5 : Int32) : Option (Int32 × GS) := glet (gsi S 54 0 (0 : Int32)) fun S1 => gbv (fX11_isPoint S1 a1) fun r3 => (if r3 = 0 then (some ((-1 : Int32), S1)) else gbv (fX11_isAsked S1 a2 a3 a4 a5) fun r6 => (if r6 = 0 then (some ((-1 : Int32), S1)) else gbd (fX11_knows S1 a5 (-1 : Int32)) fun r9 S10 => gbd (fX11_asOf S10 a4) fun r12 S13 => (if gib a1 12 = true then gbd (fX11_standOf S13 (S13.1 79 a1.toNatClampNeg) a2 a3) fun r16 S17 => (some (r16, S17)) else none)))
set_option maxRecDepth 100000 in
set_option maxHeartbeats 4000000 in
theorem wX11_stand_0 {p : Program} {l : Launch} {e : Env} {s : State} {m : MethodId} {args : Array Value} {below : List Frame} {meth : Method} {c : Code} {E : GE} {res : (Int32 × GS)} (hc : GM E p s m args meth c RX11 cX11_stand 6 (some .int)) : ∀ (S : GS) (a1 : Int32) (a2 : Int32) (a3 : Int32) (a4 : Int32) (a5 : Int32) (H : Heap) (locs : List Loc) (ls : Array Slot), lv_has ls 6 [(0, gR E 54), (1, .int a1), (2, .int a2), (3, .int a3), (4, .int a4), (5, .int a5)] → GX E S H locs → fX11_stand S a1 a2 a3 a4 a5 = some res → W p l e rmX11_stand s m args below meth c H locs 0 0 (gZ E below args s (some (.int res.1)) res.2) (F0 m 0 ls []) := by
  obtain ⟨hx, hb, -, -, -, hown, hts, -, -⟩ := id hc
  intro S a1 a2 a3 a4 a5 H locs ls hl hG h
  unfold fX11_stand at h
  refine lv_aload_n hx hb dX11_stand_0 rfl (lv_at hl 0 rfl) ?_
  refine lv_iconst (v := (0 : Int32)) hx hb dX11_stand_1 (by decide) ?_
  refine g_putI hc hG 54 fpX11_115 rfl rfl rfl rfl dX11_stand_2 (fun S1 H locs eS1 hG => ?_)
  have h := g_let eS1 h
  refine lv_aload_n hx hb dX11_stand_5 rfl (lv_at hl 0 rfl) ?_
  refine lv_iload_n hx hb dX11_stand_6 rfl (lv_at hl 1 rfl) ?_
  obtain ⟨r3, hm2, h⟩ := g_bv h
  refine g_callVi (As := [.int a1]) hc hG (mX11_isPoint l E hm2) mlX11_273 mcX11_isPoint miX11_isPoint rfl rfl rfl rfl hl.1 rfl rfl ⟨by decide, by decide⟩ (Nat.le_of_ble_eq_true rfl) ⟨by decide, by decide⟩ dX11_stand_7 rfl (fun H locs hG => ?_)
  refine lv_if_eq (tgt := 26) hx hb dX11_stand_10 (by decide) (fun c4 => ?_) (fun c4 => ?_)
  · have h := g_pos c4 h
    refine lv_iconst (v := (-1 : Int32)) hx hb dX11_stand_26 (by decide) ?_
    exact g_iret hc hG dX11_stand_27 h
  · have h := g_neg c4 h
    refine lv_aload_n hx hb dX11_stand_13 rfl (lv_at hl 0 rfl) ?_
    refine lv_iload_n hx hb dX11_stand_14 rfl (lv_at hl 2 rfl) ?_
    refine lv_iload_n hx hb dX11_stand_15 rfl (lv_at hl 3 rfl) ?_
    refine lv_iload hx hb dX11_stand_16 (lv_at hl 4 rfl) ?_
    refine lv_iload hx hb dX11_stand_18 (lv_at hl 5 rfl) ?_
    obtain ⟨r6, hm5, h⟩ := g_bv h
    refine g_callVi (As := [.int a2, .int a3, .int a4, .int a5]) hc hG (mX11_isAsked l E hm5) mlX11_375 mcX11_isAsked miX11_isAsked rfl rfl rfl rfl hl.1 rfl rfl ⟨by decide, by decide⟩ (Nat.le_of_ble_eq_true rfl) ⟨by decide, by decide⟩ dX11_stand_20 rfl (fun H locs hG => ?_)
    refine lv_if_ne (tgt := 28) hx hb dX11_stand_23 (by decide) (fun c7 => ?_) (fun c7 => ?_)
    · have h := g_neg c7 h
      refine lv_aload_n hx hb dX11_stand_28 rfl (lv_at hl 0 rfl) ?_
      refine lv_iload hx hb dX11_stand_29 (lv_at hl 5 rfl) ?_
      refine lv_iconst (v := (-1 : Int32)) hx hb dX11_stand_31 (by decide) ?_
      obtain ⟨r9, S10, hm8, h⟩ := g_bd h
      refine g_callVv (As := [.int a5, .int (-1 : Int32)]) hc hG (mX11_knows l E hm8) mlX11_379 mcX11_knows miX11_knows rfl rfl rfl rfl hl.1 rfl rfl ⟨by decide, by decide⟩ (Nat.le_of_ble_eq_true rfl) ⟨by decide, by decide⟩ dX11_stand_32 rfl (fun H locs hG => ?_)
      refine lv_aload_n hx hb dX11_stand_35 rfl (lv_at hl 0 rfl) ?_
      refine lv_iload hx hb dX11_stand_36 (lv_at hl 4 rfl) ?_
      obtain ⟨r12, S13, hm11, h⟩ := g_bd h
      refine g_callVv (As := [.int a4]) hc hG (mX11_asOf l E hm11) mlX11_382 mcX11_asOf miX11_asOf rfl rfl rfl rfl hl.1 rfl rfl ⟨by decide, by decide⟩ (Nat.le_of_ble_eq_true rfl) ⟨by decide, by decide⟩ dX11_stand_38 rfl (fun H locs hG => ?_)
      refine lv_aload_n hx hb dX11_stand_41 rfl (lv_at hl 0 rfl) ?_
      refine lv_aload_n hx hb dX11_stand_42 rfl (lv_at hl 0 rfl) ?_
      refine g_getR hc hG 54 79 flX11_91 rfl rfl rfl dX11_stand_43 ?_
      refine lv_iload_n hx hb dX11_stand_46 rfl (lv_at hl 1 rfl) ?_
      obtain ⟨hi14, h⟩ := g_if h
      refine g_iald hc hG 79 12 (a1.toNatClampNeg) rfl rfl hi14 rfl dX11_stand_47 ?_
      refine lv_iload_n hx hb dX11_stand_48 rfl (lv_at hl 2 rfl) ?_
      refine lv_iload_n hx hb dX11_stand_49 rfl (lv_at hl 3 rfl) ?_
      obtain ⟨r16, S17, hm15, h⟩ := g_bd h
      refine g_callVi (As := [.int (S13.1 79 a1.toNatClampNeg), .int a2, .int a3]) hc hG (mX11_standOf l E hm15) mlX11_384 mcX11_standOf miX11_standOf rfl rfl rfl rfl hl.1 rfl rfl ⟨by decide, by decide⟩ (Nat.le_of_ble_eq_true rfl) ⟨by decide, by decide⟩ dX11_stand_50 rfl (fun H locs hG => ?_)
      exact g_iret hc hG dX11_stand_53 h
    · have h := g_pos c7 h
      refine lv_iconst (v := (-1 : Int32)) hx hb dX11_stand_26 (by decide) ?_
      exact g_iret hc hG dX11_stand_27 h
theorem mX11_stand (l : Launch) (E : GE) {S : GS} {a1 : Int32} {a2 : Int32} {a3 : Int32} {a4 : Int32} {a5 : Int32} {res : (Int32 × GS)} (h : fX11_stand S a1 a2 a3 a4 a5 = some res) : gMet l E yX11_stand cX11_stand 6 (some .int) rmX11_stand [gR E 54, .int a1, .int a2, .int a3, .int a4, .int a5] S (some (.int res.1)) res.2 :=
  g_met (by decide) (Nat.le_of_ble_eq_true rfl) rfl fun p e s m below meth c H ls hc hG hl => wX11_stand_0 hc S a1 a2 a3 a4 a5 H [] ls hl hG h
abbrev rmX11_lead : Room := { frames := 8, cells := 0, slots := 0, locals := 195 }
def fX11_lead (S : GS) (a1 : Int32) (a2 : Int32) (a3 : Int32) (a4 : Int32) (a5 : Int32) : Option (Int32 × GS) := glet (gsi S 54 0 (0 : Int32)) fun S1 => gbv (fX11_isPoint S1 a1) fun r3 => (if r3 = 0 then (some ((-1 : Int32), S1)) else gbv (fX11_isAsked S1 a2 a3 a4 a5) fun r6 => (if r6 = 0 then (some ((-1 : Int32), S1)) else gbd (fX11_knows S1 a5 (-1 : Int32)) fun r9 S10 => gbd (fX11_asOf S10 a4) fun r12 S13 => (if gib a1 12 = true then gbd (fX11_standOf S13 (S13.1 79 a1.toNatClampNeg) a2 a3) fun r16 S17 => (some ((S17.1 54 60), S17)) else none)))
set_option maxRecDepth 100000 in
set_option maxHeartbeats 4000000 in
theorem wX11_lead_0 {p : Program} {l : Launch} {e : Env} {s : State} {m : MethodId} {args : Array Value} {below : List Frame} {meth : Method} {c : Code} {E : GE} {res : (Int32 × GS)} (hc : GM E p s m args meth c RX11 cX11_lead 6 (some .int)) : ∀ (S : GS) (a1 : Int32) (a2 : Int32) (a3 : Int32) (a4 : Int32) (a5 : Int32) (H : Heap) (locs : List Loc) (ls : Array Slot), lv_has ls 6 [(0, gR E 54), (1, .int a1), (2, .int a2), (3, .int a3), (4, .int a4), (5, .int a5)] → GX E S H locs → fX11_lead S a1 a2 a3 a4 a5 = some res → W p l e rmX11_lead s m args below meth c H locs 0 0 (gZ E below args s (some (.int res.1)) res.2) (F0 m 0 ls []) := by
  obtain ⟨hx, hb, -, -, -, hown, hts, -, -⟩ := id hc
  intro S a1 a2 a3 a4 a5 H locs ls hl hG h
  unfold fX11_lead at h
  refine lv_aload_n hx hb dX11_lead_0 rfl (lv_at hl 0 rfl) ?_
  refine lv_iconst (v := (0 : Int32)) hx hb dX11_lead_1 (by decide) ?_
  refine g_putI hc hG 54 fpX11_115 rfl rfl rfl rfl dX11_lead_2 (fun S1 H locs eS1 hG => ?_)
  have h := g_let eS1 h
  refine lv_aload_n hx hb dX11_lead_5 rfl (lv_at hl 0 rfl) ?_
  refine lv_iload_n hx hb dX11_lead_6 rfl (lv_at hl 1 rfl) ?_
  obtain ⟨r3, hm2, h⟩ := g_bv h
  refine g_callVi (As := [.int a1]) hc hG (mX11_isPoint l E hm2) mlX11_273 mcX11_isPoint miX11_isPoint rfl rfl rfl rfl hl.1 rfl rfl ⟨by decide, by decide⟩ (Nat.le_of_ble_eq_true rfl) ⟨by decide, by decide⟩ dX11_lead_7 rfl (fun H locs hG => ?_)
  refine lv_if_eq (tgt := 26) hx hb dX11_lead_10 (by decide) (fun c4 => ?_) (fun c4 => ?_)
  · have h := g_pos c4 h
    refine lv_iconst (v := (-1 : Int32)) hx hb dX11_lead_26 (by decide) ?_
    exact g_iret hc hG dX11_lead_27 h
  · have h := g_neg c4 h
    refine lv_aload_n hx hb dX11_lead_13 rfl (lv_at hl 0 rfl) ?_
    refine lv_iload_n hx hb dX11_lead_14 rfl (lv_at hl 2 rfl) ?_
    refine lv_iload_n hx hb dX11_lead_15 rfl (lv_at hl 3 rfl) ?_
    refine lv_iload hx hb dX11_lead_16 (lv_at hl 4 rfl) ?_
    refine lv_iload hx hb dX11_lead_18 (lv_at hl 5 rfl) ?_
    obtain ⟨r6, hm5, h⟩ := g_bv h
    refine g_callVi (As := [.int a2, .int a3, .int a4, .int a5]) hc hG (mX11_isAsked l E hm5) mlX11_375 mcX11_isAsked miX11_isAsked rfl rfl rfl rfl hl.1 rfl rfl ⟨by decide, by decide⟩ (Nat.le_of_ble_eq_true rfl) ⟨by decide, by decide⟩ dX11_lead_20 rfl (fun H locs hG => ?_)
    refine lv_if_ne (tgt := 28) hx hb dX11_lead_23 (by decide) (fun c7 => ?_) (fun c7 => ?_)
    · have h := g_neg c7 h
      refine lv_aload_n hx hb dX11_lead_28 rfl (lv_at hl 0 rfl) ?_
      refine lv_iload hx hb dX11_lead_29 (lv_at hl 5 rfl) ?_
      refine lv_iconst (v := (-1 : Int32)) hx hb dX11_lead_31 (by decide) ?_
      obtain ⟨r9, S10, hm8, h⟩ := g_bd h
      refine g_callVv (As := [.int a5, .int (-1 : Int32)]) hc hG (mX11_knows l E hm8) mlX11_379 mcX11_knows miX11_knows rfl rfl rfl rfl hl.1 rfl rfl ⟨by decide, by decide⟩ (Nat.le_of_ble_eq_true rfl) ⟨by decide, by decide⟩ dX11_lead_32 rfl (fun H locs hG => ?_)
      refine lv_aload_n hx hb dX11_lead_35 rfl (lv_at hl 0 rfl) ?_
      refine lv_iload hx hb dX11_lead_36 (lv_at hl 4 rfl) ?_
      obtain ⟨r12, S13, hm11, h⟩ := g_bd h
      refine g_callVv (As := [.int a4]) hc hG (mX11_asOf l E hm11) mlX11_382 mcX11_asOf miX11_asOf rfl rfl rfl rfl hl.1 rfl rfl ⟨by decide, by decide⟩ (Nat.le_of_ble_eq_true rfl) ⟨by decide, by decide⟩ dX11_lead_38 rfl (fun H locs hG => ?_)
      refine lv_aload_n hx hb dX11_lead_41 rfl (lv_at hl 0 rfl) ?_
      refine lv_aload_n hx hb dX11_lead_42 rfl (lv_at hl 0 rfl) ?_
      refine g_getR hc hG 54 79 flX11_91 rfl rfl rfl dX11_lead_43 ?_
      refine lv_iload_n hx hb dX11_lead_46 rfl (lv_at hl 1 rfl) ?_
      obtain ⟨hi14, h⟩ := g_if h
      refine g_iald hc hG 79 12 (a1.toNatClampNeg) rfl rfl hi14 rfl dX11_lead_47 ?_
      refine lv_iload_n hx hb dX11_lead_48 rfl (lv_at hl 2 rfl) ?_
      refine lv_iload_n hx hb dX11_lead_49 rfl (lv_at hl 3 rfl) ?_
      obtain ⟨r16, S17, hm15, h⟩ := g_bd h
      refine g_callVi (As := [.int (S13.1 79 a1.toNatClampNeg), .int a2, .int a3]) hc hG (mX11_standOf l E hm15) mlX11_384 mcX11_standOf miX11_standOf rfl rfl rfl rfl hl.1 rfl rfl ⟨by decide, by decide⟩ (Nat.le_of_ble_eq_true rfl) ⟨by decide, by decide⟩ dX11_lead_50 rfl (fun H locs hG => ?_)
      refine lv_pop hx hb dX11_lead_53 rfl ?_
      refine lv_aload_n hx hb dX11_lead_54 rfl (lv_at hl 0 rfl) ?_
      refine g_getI hc hG 54 flX11_366 rfl rfl dX11_lead_55 ?_
      exact g_iret hc hG dX11_lead_58 h
    · have h := g_pos c7 h
      refine lv_iconst (v := (-1 : Int32)) hx hb dX11_lead_26 (by decide) ?_
      exact g_iret hc hG dX11_lead_27 h
theorem mX11_lead (l : Launch) (E : GE) {S : GS} {a1 : Int32} {a2 : Int32} {a3 : Int32} {a4 : Int32} {a5 : Int32} {res : (Int32 × GS)} (h : fX11_lead S a1 a2 a3 a4 a5 = some res) : gMet l E yX11_lead cX11_lead 6 (some .int) rmX11_lead [gR E 54, .int a1, .int a2, .int a3, .int a4, .int a5] S (some (.int res.1)) res.2 :=
  g_met (by decide) (Nat.le_of_ble_eq_true rfl) rfl fun p e s m below meth c H ls hc hG hl => wX11_lead_0 hc S a1 a2 a3 a4 a5 H [] ls hl hG h
abbrev rmX11_isThere : Room := { frames := 8, cells := 0, slots := 0, locals := 195 }
def fX11_isThere (S : GS) (a1 : Int32) (a2 : Int32) (a3 : Int32) (a4 : Int32) : Option (Int32 × GS) := gbv (fX11_isCase S a1) fun r2 => (if r2 = 0 then (some ((0 : Int32), S)) else gbv (fX11_isPoint S a2) fun r5 => (if r5 = 0 then (some ((0 : Int32), S)) else gbv (fX11_isDay S a3) fun r8 => (if r8 = 0 then (some ((0 : Int32), S)) else gbv (fX11_isDay S a4) fun r11 => (if r11 = 0 then (some ((0 : Int32), S)) else gbd (fX11_knows S a4 (-1 : Int32)) fun r14 S15 => gbd (fX11_asOf S15 a3) fun r17 S18 => (if gib a1 32 = true then (if (S18.1 82 a1.toNatClampNeg) = (-1 : Int32) then (some ((0 : Int32), S18)) else (if (S18.1 54 58) ≤ (S18.1 82 a1.toNatClampNeg) then (some ((0 : Int32), S18)) else (some ((1 : Int32), S18)))) else none)))))
set_option maxRecDepth 100000 in
set_option maxHeartbeats 4000000 in
theorem wX11_isThere_0 {p : Program} {l : Launch} {e : Env} {s : State} {m : MethodId} {args : Array Value} {below : List Frame} {meth : Method} {c : Code} {E : GE} {res : (Int32 × GS)} (hc : GM E p s m args meth c RX11 cX11_isThere 5 (some .boolean)) : ∀ (S : GS) (a1 : Int32) (a2 : Int32) (a3 : Int32) (a4 : Int32) (H : Heap) (locs : List Loc) (ls : Array Slot), lv_has ls 5 [(0, gR E 54), (1, .int a1), (2, .int a2), (3, .int a3), (4, .int a4)] → GX E S H locs → fX11_isThere S a1 a2 a3 a4 = some res → W p l e rmX11_isThere s m args below meth c H locs 0 0 (gZ E below args s (some (.int res.1)) res.2) (F0 m 0 ls []) := by
  obtain ⟨hx, hb, -, -, -, hown, hts, -, -⟩ := id hc
  intro S a1 a2 a3 a4 H locs ls hl hG h
  unfold fX11_isThere at h
  refine lv_aload_n hx hb dX11_isThere_0 rfl (lv_at hl 0 rfl) ?_
  refine lv_iload_n hx hb dX11_isThere_1 rfl (lv_at hl 1 rfl) ?_
  obtain ⟨r2, hm1, h⟩ := g_bv h
  refine g_callVi (As := [.int a1]) hc hG (mX11_isCase l E hm1) mlX11_285 mcX11_isCase miX11_isCase rfl rfl rfl rfl hl.1 rfl rfl ⟨by decide, by decide⟩ (Nat.le_of_ble_eq_true rfl) ⟨by decide, by decide⟩ dX11_isThere_2 rfl (fun H locs hG => ?_)
  refine lv_if_eq (tgt := 31) hx hb dX11_isThere_5 (by decide) (fun c3 => ?_) (fun c3 => ?_)
  · have h := g_pos c3 h
    refine lv_iconst (v := (0 : Int32)) hx hb dX11_isThere_31 (by decide) ?_
    exact g_zret hc hG (Or.inl rfl) dX11_isThere_32 h
  · have h := g_neg c3 h
    refine lv_aload_n hx hb dX11_isThere_8 rfl (lv_at hl 0 rfl) ?_
    refine lv_iload_n hx hb dX11_isThere_9 rfl (lv_at hl 2 rfl) ?_
    obtain ⟨r5, hm4, h⟩ := g_bv h
    refine g_callVi (As := [.int a2]) hc hG (mX11_isPoint l E hm4) mlX11_273 mcX11_isPoint miX11_isPoint rfl rfl rfl rfl hl.1 rfl rfl ⟨by decide, by decide⟩ (Nat.le_of_ble_eq_true rfl) ⟨by decide, by decide⟩ dX11_isThere_10 rfl (fun H locs hG => ?_)
    refine lv_if_eq (tgt := 31) hx hb dX11_isThere_13 (by decide) (fun c6 => ?_) (fun c6 => ?_)
    · have h := g_pos c6 h
      refine lv_iconst (v := (0 : Int32)) hx hb dX11_isThere_31 (by decide) ?_
      exact g_zret hc hG (Or.inl rfl) dX11_isThere_32 h
    · have h := g_neg c6 h
      refine lv_iload_n hx hb dX11_isThere_16 rfl (lv_at hl 3 rfl) ?_
      obtain ⟨r8, hm7, h⟩ := g_bv h
      refine g_callSi (As := [.int a3]) hc hG (mX11_isDay l E hm7) mlX11_296 mcX11_isDay msX11_isDay rfl hl.1 rfl rfl ⟨by decide, by decide⟩ (Nat.le_of_ble_eq_true rfl) ⟨by decide, by decide⟩ dX11_isThere_17 rfl (fun H locs hG => ?_)
      refine lv_if_eq (tgt := 31) hx hb dX11_isThere_20 (by decide) (fun c9 => ?_) (fun c9 => ?_)
      · have h := g_pos c9 h
        refine lv_iconst (v := (0 : Int32)) hx hb dX11_isThere_31 (by decide) ?_
        exact g_zret hc hG (Or.inl rfl) dX11_isThere_32 h
      · have h := g_neg c9 h
        refine lv_iload hx hb dX11_isThere_23 (lv_at hl 4 rfl) ?_
        obtain ⟨r11, hm10, h⟩ := g_bv h
        refine g_callSi (As := [.int a4]) hc hG (mX11_isDay l E hm10) mlX11_296 mcX11_isDay msX11_isDay rfl hl.1 rfl rfl ⟨by decide, by decide⟩ (Nat.le_of_ble_eq_true rfl) ⟨by decide, by decide⟩ dX11_isThere_25 rfl (fun H locs hG => ?_)
        refine lv_if_ne (tgt := 33) hx hb dX11_isThere_28 (by decide) (fun c12 => ?_) (fun c12 => ?_)
        · have h := g_neg c12 h
          refine lv_aload_n hx hb dX11_isThere_33 rfl (lv_at hl 0 rfl) ?_
          refine lv_iload hx hb dX11_isThere_34 (lv_at hl 4 rfl) ?_
          refine lv_iconst (v := (-1 : Int32)) hx hb dX11_isThere_36 (by decide) ?_
          obtain ⟨r14, S15, hm13, h⟩ := g_bd h
          refine g_callVv (As := [.int a4, .int (-1 : Int32)]) hc hG (mX11_knows l E hm13) mlX11_379 mcX11_knows miX11_knows rfl rfl rfl rfl hl.1 rfl rfl ⟨by decide, by decide⟩ (Nat.le_of_ble_eq_true rfl) ⟨by decide, by decide⟩ dX11_isThere_37 rfl (fun H locs hG => ?_)
          refine lv_aload_n hx hb dX11_isThere_40 rfl (lv_at hl 0 rfl) ?_
          refine lv_iload_n hx hb dX11_isThere_41 rfl (lv_at hl 3 rfl) ?_
          obtain ⟨r17, S18, hm16, h⟩ := g_bd h
          refine g_callVv (As := [.int a3]) hc hG (mX11_asOf l E hm16) mlX11_382 mcX11_asOf miX11_asOf rfl rfl rfl rfl hl.1 rfl rfl ⟨by decide, by decide⟩ (Nat.le_of_ble_eq_true rfl) ⟨by decide, by decide⟩ dX11_isThere_42 rfl (fun H locs hG => ?_)
          refine lv_aload_n hx hb dX11_isThere_45 rfl (lv_at hl 0 rfl) ?_
          refine g_getR hc hG 54 82 flX11_100 rfl rfl rfl dX11_isThere_46 ?_
          refine lv_iload_n hx hb dX11_isThere_49 rfl (lv_at hl 1 rfl) ?_
          obtain ⟨hi19, h⟩ := g_if h
          refine g_iald hc hG 82 32 (a1.toNatClampNeg) rfl rfl hi19 rfl dX11_isThere_50 ?_
          refine lv_iconst (v := (-1 : Int32)) hx hb dX11_isThere_51 (by decide) ?_
          refine lv_icmp_eq (tgt := 72) hx hb dX11_isThere_52 (by decide) (fun c20 => ?_) (fun c20 => ?_)
          · have h := g_pos c20 h
            refine lv_iconst (v := (0 : Int32)) hx hb dX11_isThere_72 (by decide) ?_
            exact g_zret hc hG (Or.inl rfl) dX11_isThere_73 h
          · have h := g_neg c20 h
            refine lv_aload_n hx hb dX11_isThere_55 rfl (lv_at hl 0 rfl) ?_
            refine g_getR hc hG 54 82 flX11_100 rfl rfl rfl dX11_isThere_56 ?_
            refine lv_iload_n hx hb dX11_isThere_59 rfl (lv_at hl 1 rfl) ?_
            refine g_iald hc hG 82 32 (a1.toNatClampNeg) rfl rfl hi19 rfl dX11_isThere_60 ?_
            refine lv_aload_n hx hb dX11_isThere_61 rfl (lv_at hl 0 rfl) ?_
            refine g_getI hc hG 54 flX11_363 rfl rfl dX11_isThere_62 ?_
            refine lv_icmp_ge (tgt := 72) hx hb dX11_isThere_65 (by decide) (fun c21 => ?_) (fun c21 => ?_)
            · have h := g_pos c21 h
              refine lv_iconst (v := (0 : Int32)) hx hb dX11_isThere_72 (by decide) ?_
              exact g_zret hc hG (Or.inl rfl) dX11_isThere_73 h
            · have h := g_neg c21 h
              refine lv_iconst (v := (1 : Int32)) hx hb dX11_isThere_68 (by decide) ?_
              refine lv_goto (tgt := 73) hx hb dX11_isThere_69 (by decide) ?_
              exact g_zret hc hG (Or.inr rfl) dX11_isThere_73 h
        · have h := g_pos c12 h
          refine lv_iconst (v := (0 : Int32)) hx hb dX11_isThere_31 (by decide) ?_
          exact g_zret hc hG (Or.inl rfl) dX11_isThere_32 h
theorem mX11_isThere (l : Launch) (E : GE) {S : GS} {a1 : Int32} {a2 : Int32} {a3 : Int32} {a4 : Int32} {res : (Int32 × GS)} (h : fX11_isThere S a1 a2 a3 a4 = some res) : gMet l E yX11_isThere cX11_isThere 5 (some .boolean) rmX11_isThere [gR E 54, .int a1, .int a2, .int a3, .int a4] S (some (.int res.1)) res.2 :=
  g_met (by decide) (Nat.le_of_ble_eq_true rfl) rfl fun p e s m below meth c H ls hc hG hl => wX11_isThere_0 hc S a1 a2 a3 a4 H [] ls hl hG h
abbrev rmX11_asked : Room := { frames := 9, cells := 0, slots := 0, locals := 219 }
def fX11_asked (S : GS) (a1 : Int32) (a2 : Int32) (a3 : Int32) (a4 : Int32) (a5 : Int32) : Option (Int32 × GS) := glet (gsi S 54 0 (0 : Int32)) fun S1 => (if a3 < 0 then (some ((-1 : Int32), S1)) else (if (6 : Int32) < a3 then (some ((-1 : Int32), S1)) else gbd (fX11_isThere S1 a1 a2 a4 a5) fun r5 S6 => (if r5 = 0 then (some ((-1 : Int32), S6)) else (if gib a2 12 = true then glet (S6.1 79 a2.toNatClampNeg) fun v9 => (if a3 = (0 : Int32) then (if gib a1 32 = true then gbv (fX11_votes S6 a1 v9 (S6.1 69 a1.toNatClampNeg)) fun r13 => (some (r13, S6)) else none) else (if a3 = (1 : Int32) then (if gib a1 32 = true then gbv (fX11_isHeld S6 a1 v9 (S6.1 69 a1.toNatClampNeg)) fun r17 => gbv (fX11_is S6 r17) fun r19 => (some (((r19).toInt32), S6)) else none) else (if a3 = (2 : Int32) then gbd (fX11_isOverruled S6 a1 v9 (S6.1 54 58)) fun r22 S23 => gbv (fX11_is S23 r22) fun r25 => (some (((r25).toInt32), S23)) else (if a3 = (3 : Int32) then gbv (fX11_doubts S6 a1 v9 (S6.1 54 58)) fun r28 => (some (r28, S6)) else (if a3 = (4 : Int32) then gbv (fX11_isTaken S6 a1 v9 a4) fun r31 => gbv (fX11_is S6 r31) fun r33 => (some (((r33).toInt32), S6)) else (if a3 = (5 : Int32) then (if gib a1 32 = true then (some ((((S6.1 83 a1.toNatClampNeg) >>> (v9 &&& 31)) &&& (1 : Int32)), S6)) else none) else (if gib a1 32 = true then gbv (fX11_is S6 (S6.1 85 a1.toNatClampNeg)) fun r38 => (some (((r38).toInt32), S6)) else none))))))) else none))))
set_option maxRecDepth 100000 in
set_option maxHeartbeats 4000000 in
theorem wX11_asked_0 {p : Program} {l : Launch} {e : Env} {s : State} {m : MethodId} {args : Array Value} {below : List Frame} {meth : Method} {c : Code} {E : GE} {res : (Int32 × GS)} (hc : GM E p s m args meth c RX11 cX11_asked 7 (some .int)) : ∀ (S : GS) (a1 : Int32) (a2 : Int32) (a3 : Int32) (a4 : Int32) (a5 : Int32) (H : Heap) (locs : List Loc) (ls : Array Slot), lv_has ls 7 [(0, gR E 54), (1, .int a1), (2, .int a2), (3, .int a3), (4, .int a4), (5, .int a5)] → GX E S H locs → fX11_asked S a1 a2 a3 a4 a5 = some res → W p l e rmX11_asked s m args below meth c H locs 0 0 (gZ E below args s (some (.int res.1)) res.2) (F0 m 0 ls []) := by
  obtain ⟨hx, hb, -, -, -, hown, hts, -, -⟩ := id hc
  intro S a1 a2 a3 a4 a5 H locs ls hl hG h
  unfold fX11_asked at h
  refine lv_aload_n hx hb dX11_asked_0 rfl (lv_at hl 0 rfl) ?_
  refine lv_iconst (v := (0 : Int32)) hx hb dX11_asked_1 (by decide) ?_
  refine g_putI hc hG 54 fpX11_115 rfl rfl rfl rfl dX11_asked_2 (fun S1 H locs eS1 hG => ?_)
  have h := g_let eS1 h
  refine lv_iload_n hx hb dX11_asked_5 rfl (lv_at hl 3 rfl) ?_
  refine lv_if_lt (tgt := 28) hx hb dX11_asked_6 (by decide) (fun c2 => ?_) (fun c2 => ?_)
  · have h := g_pos c2 h
    refine lv_iconst (v := (-1 : Int32)) hx hb dX11_asked_28 (by decide) ?_
    exact g_iret hc hG dX11_asked_29 h
  · have h := g_neg c2 h
    refine lv_iload_n hx hb dX11_asked_9 rfl (lv_at hl 3 rfl) ?_
    refine lv_bipush (v := (6 : Int32)) hx hb dX11_asked_10 (by decide) ?_
    refine lv_icmp_gt (tgt := 28) hx hb dX11_asked_12 (by decide) (fun c3 => ?_) (fun c3 => ?_)
    · have h := g_pos c3 h
      refine lv_iconst (v := (-1 : Int32)) hx hb dX11_asked_28 (by decide) ?_
      exact g_iret hc hG dX11_asked_29 h
    · have h := g_neg c3 h
      refine lv_aload_n hx hb dX11_asked_15 rfl (lv_at hl 0 rfl) ?_
      refine lv_iload_n hx hb dX11_asked_16 rfl (lv_at hl 1 rfl) ?_
      refine lv_iload_n hx hb dX11_asked_17 rfl (lv_at hl 2 rfl) ?_
      refine lv_iload hx hb dX11_asked_18 (lv_at hl 4 rfl) ?_
      refine lv_iload hx hb dX11_asked_20 (lv_at hl 5 rfl) ?_
      obtain ⟨r5, S6, hm4, h⟩ := g_bd h
      refine g_callVi (As := [.int a1, .int a2, .int a4, .int a5]) hc hG (mX11_isThere l E hm4) mlX11_387 mcX11_isThere miX11_isThere rfl rfl rfl rfl hl.1 rfl rfl ⟨by decide, by decide⟩ (Nat.le_of_ble_eq_true rfl) ⟨by decide, by decide⟩ dX11_asked_22 rfl (fun H locs hG => ?_)
      refine lv_if_ne (tgt := 30) hx hb dX11_asked_25 (by decide) (fun c7 => ?_) (fun c7 => ?_)
      · have h := g_neg c7 h
        refine lv_aload_n hx hb dX11_asked_30 rfl (lv_at hl 0 rfl) ?_
        refine g_getR hc hG 54 79 flX11_91 rfl rfl rfl dX11_asked_31 ?_
        refine lv_iload_n hx hb dX11_asked_34 rfl (lv_at hl 2 rfl) ?_
        obtain ⟨hi8, h⟩ := g_if h
        refine g_iald hc hG 79 12 (a2.toNatClampNeg) rfl rfl hi8 rfl dX11_asked_35 ?_
        refine lv_topi (fun v9 ev9 => ?_)
        have h := g_let ev9 h
        refine lv_istore (lv' := [(6, .int v9), (0, gR E 54), (1, .int a1), (2, .int a2), (3, .int a3), (4, .int a4), (5, .int a5)]) hx hb dX11_asked_36 hl (by decide) rfl (fun ls hl => ?_)
        refine lv_iload_n hx hb dX11_asked_38 rfl (lv_at hl 4 rfl) ?_
        by_cases c10 : a3 = (0 : Int32)
        · have h := g_pos c10 h
          refine lv_tableIn (off := 37) (tgt := 76) hx hb dX11_asked_39 (by rw [c10]; decide) (by rw [c10]; decide) (by rw [c10]; decide) (by decide) ?_
          refine lv_aload_n hx hb dX11_asked_76 rfl (lv_at hl 1 rfl) ?_
          refine lv_iload_n hx hb dX11_asked_77 rfl (lv_at hl 2 rfl) ?_
          refine lv_iload hx hb dX11_asked_78 (lv_at hl 0 rfl) ?_
          refine lv_aload_n hx hb dX11_asked_80 rfl (lv_at hl 1 rfl) ?_
          refine g_getR hc hG 54 69 flX11_61 rfl rfl rfl dX11_asked_81 ?_
          refine lv_iload_n hx hb dX11_asked_84 rfl (lv_at hl 2 rfl) ?_
          obtain ⟨hi11, h⟩ := g_if h
          refine g_iald hc hG 69 32 (a1.toNatClampNeg) rfl rfl hi11 rfl dX11_asked_85 ?_
          obtain ⟨r13, hm12, h⟩ := g_bv h
          refine g_callVi (As := [.int a1, .int v9, .int (S6.1 69 a1.toNatClampNeg)]) hc hG (mX11_votes l E hm12) mlX11_318 mcX11_votes miX11_votes rfl rfl rfl rfl hl.1 rfl rfl ⟨by decide, by decide⟩ (Nat.le_of_ble_eq_true rfl) ⟨by decide, by decide⟩ dX11_asked_86 rfl (fun H locs hG => ?_)
          exact g_iret hc hG dX11_asked_89 h
        have h := g_neg c10 h
        by_cases c14 : a3 = (1 : Int32)
        · have h := g_pos c14 h
          refine lv_tableIn (off := 51) (tgt := 90) hx hb dX11_asked_39 (by rw [c14]; decide) (by rw [c14]; decide) (by rw [c14]; decide) (by decide) ?_
          refine lv_aload_n hx hb dX11_asked_90 rfl (lv_at hl 1 rfl) ?_
          refine lv_iload_n hx hb dX11_asked_91 rfl (lv_at hl 2 rfl) ?_
          refine lv_iload hx hb dX11_asked_92 (lv_at hl 0 rfl) ?_
          refine lv_aload_n hx hb dX11_asked_94 rfl (lv_at hl 1 rfl) ?_
          refine g_getR hc hG 54 69 flX11_61 rfl rfl rfl dX11_asked_95 ?_
          refine lv_iload_n hx hb dX11_asked_98 rfl (lv_at hl 2 rfl) ?_
          obtain ⟨hi15, h⟩ := g_if h
          refine g_iald hc hG 69 32 (a1.toNatClampNeg) rfl rfl hi15 rfl dX11_asked_99 ?_
          obtain ⟨r17, hm16, h⟩ := g_bv h
          refine g_callVi (As := [.int a1, .int v9, .int (S6.1 69 a1.toNatClampNeg)]) hc hG (mX11_isHeld l E hm16) mlX11_332 mcX11_isHeld miX11_isHeld rfl rfl rfl rfl hl.1 rfl rfl ⟨by decide, by decide⟩ (Nat.le_of_ble_eq_true rfl) ⟨by decide, by decide⟩ dX11_asked_100 rfl (fun H locs hG => ?_)
          obtain ⟨r19, hm18, h⟩ := g_bv h
          refine g_callSl (As := [.int r17]) hc hG (mX11_is l E hm18) mlX11_244 mcX11_is msX11_is rfl hl.1 rfl rfl ⟨by decide, by decide⟩ (Nat.le_of_ble_eq_true rfl) ⟨by decide, by decide⟩ dX11_asked_103 rfl (fun H locs hG => ?_)
          refine lv_l2i (v := ((r19).toInt32)) hx hb dX11_asked_106 rfl ?_
          exact g_iret hc hG dX11_asked_107 h
        have h := g_neg c14 h
        by_cases c20 : a3 = (2 : Int32)
        · have h := g_pos c20 h
          refine lv_tableIn (off := 69) (tgt := 108) hx hb dX11_asked_39 (by rw [c20]; decide) (by rw [c20]; decide) (by rw [c20]; decide) (by decide) ?_
          refine lv_aload_n hx hb dX11_asked_108 rfl (lv_at hl 1 rfl) ?_
          refine lv_iload_n hx hb dX11_asked_109 rfl (lv_at hl 2 rfl) ?_
          refine lv_iload hx hb dX11_asked_110 (lv_at hl 0 rfl) ?_
          refine lv_aload_n hx hb dX11_asked_112 rfl (lv_at hl 1 rfl) ?_
          refine g_getI hc hG 54 flX11_363 rfl rfl dX11_asked_113 ?_
          obtain ⟨r22, S23, hm21, h⟩ := g_bd h
          refine g_callVi (As := [.int a1, .int v9, .int (S6.1 54 58)]) hc hG (mX11_isOverruled l E hm21) mlX11_336 mcX11_isOverruled miX11_isOverruled rfl rfl rfl rfl hl.1 rfl rfl ⟨by decide, by decide⟩ (Nat.le_of_ble_eq_true rfl) ⟨by decide, by decide⟩ dX11_asked_116 rfl (fun H locs hG => ?_)
          obtain ⟨r25, hm24, h⟩ := g_bv h
          refine g_callSl (As := [.int r22]) hc hG (mX11_is l E hm24) mlX11_244 mcX11_is msX11_is rfl hl.1 rfl rfl ⟨by decide, by decide⟩ (Nat.le_of_ble_eq_true rfl) ⟨by decide, by decide⟩ dX11_asked_119 rfl (fun H locs hG => ?_)
          refine lv_l2i (v := ((r25).toInt32)) hx hb dX11_asked_122 rfl ?_
          exact g_iret hc hG dX11_asked_123 h
        have h := g_neg c20 h
        by_cases c26 : a3 = (3 : Int32)
        · have h := g_pos c26 h
          refine lv_tableIn (off := 85) (tgt := 124) hx hb dX11_asked_39 (by rw [c26]; decide) (by rw [c26]; decide) (by rw [c26]; decide) (by decide) ?_
          refine lv_aload_n hx hb dX11_asked_124 rfl (lv_at hl 1 rfl) ?_
          refine lv_iload_n hx hb dX11_asked_125 rfl (lv_at hl 2 rfl) ?_
          refine lv_iload hx hb dX11_asked_126 (lv_at hl 0 rfl) ?_
          refine lv_aload_n hx hb dX11_asked_128 rfl (lv_at hl 1 rfl) ?_
          refine g_getI hc hG 54 flX11_363 rfl rfl dX11_asked_129 ?_
          obtain ⟨r28, hm27, h⟩ := g_bv h
          refine g_callVi (As := [.int a1, .int v9, .int (S6.1 54 58)]) hc hG (mX11_doubts l E hm27) mlX11_322 mcX11_doubts miX11_doubts rfl rfl rfl rfl hl.1 rfl rfl ⟨by decide, by decide⟩ (Nat.le_of_ble_eq_true rfl) ⟨by decide, by decide⟩ dX11_asked_132 rfl (fun H locs hG => ?_)
          exact g_iret hc hG dX11_asked_135 h
        have h := g_neg c26 h
        by_cases c29 : a3 = (4 : Int32)
        · have h := g_pos c29 h
          refine lv_tableIn (off := 97) (tgt := 136) hx hb dX11_asked_39 (by rw [c29]; decide) (by rw [c29]; decide) (by rw [c29]; decide) (by decide) ?_
          refine lv_aload_n hx hb dX11_asked_136 rfl (lv_at hl 1 rfl) ?_
          refine lv_iload_n hx hb dX11_asked_137 rfl (lv_at hl 2 rfl) ?_
          refine lv_iload hx hb dX11_asked_138 (lv_at hl 0 rfl) ?_
          refine lv_iload hx hb dX11_asked_140 (lv_at hl 5 rfl) ?_
          obtain ⟨r31, hm30, h⟩ := g_bv h
          refine g_callVi (As := [.int a1, .int v9, .int a4]) hc hG (mX11_isTaken l E hm30) mlX11_339 mcX11_isTaken miX11_isTaken rfl rfl rfl rfl hl.1 rfl rfl ⟨by decide, by decide⟩ (Nat.le_of_ble_eq_true rfl) ⟨by decide, by decide⟩ dX11_asked_142 rfl (fun H locs hG => ?_)
          obtain ⟨r33, hm32, h⟩ := g_bv h
          refine g_callSl (As := [.int r31]) hc hG (mX11_is l E hm32) mlX11_244 mcX11_is msX11_is rfl hl.1 rfl rfl ⟨by decide, by decide⟩ (Nat.le_of_ble_eq_true rfl) ⟨by decide, by decide⟩ dX11_asked_145 rfl (fun H locs hG => ?_)
          refine lv_l2i (v := ((r33).toInt32)) hx hb dX11_asked_148 rfl ?_
          exact g_iret hc hG dX11_asked_149 h
        have h := g_neg c29 h
        by_cases c34 : a3 = (5 : Int32)
        · have h := g_pos c34 h
          refine lv_tableIn (off := 111) (tgt := 150) hx hb dX11_asked_39 (by rw [c34]; decide) (by rw [c34]; decide) (by rw [c34]; decide) (by decide) ?_
          refine lv_aload_n hx hb dX11_asked_150 rfl (lv_at hl 1 rfl) ?_
          refine g_getR hc hG 54 83 flX11_103 rfl rfl rfl dX11_asked_151 ?_
          refine lv_iload_n hx hb dX11_asked_154 rfl (lv_at hl 2 rfl) ?_
          obtain ⟨hi35, h⟩ := g_if h
          refine g_iald hc hG 83 32 (a1.toNatClampNeg) rfl rfl hi35 rfl dX11_asked_155 ?_
          refine lv_iload hx hb dX11_asked_156 (lv_at hl 0 rfl) ?_
          refine lv_ishr hx hb dX11_asked_158 ?_
          refine lv_iconst (v := (1 : Int32)) hx hb dX11_asked_159 (by decide) ?_
          refine lv_iand hx hb dX11_asked_160 ?_
          exact g_iret hc hG dX11_asked_161 h
        have h := g_neg c34 h
        have zc10 : ¬ Int32.toInt a3 = 0 := fun q => c10 (Int32.toInt_inj.mp (q.trans (by decide)))
        have zc14 : ¬ Int32.toInt a3 = 1 := fun q => c14 (Int32.toInt_inj.mp (q.trans (by decide)))
        have zc20 : ¬ Int32.toInt a3 = 2 := fun q => c20 (Int32.toInt_inj.mp (q.trans (by decide)))
        have zc26 : ¬ Int32.toInt a3 = 3 := fun q => c26 (Int32.toInt_inj.mp (q.trans (by decide)))
        have zc29 : ¬ Int32.toInt a3 = 4 := fun q => c29 (Int32.toInt_inj.mp (q.trans (by decide)))
        have zc34 : ¬ Int32.toInt a3 = 5 := fun q => c34 (Int32.toInt_inj.mp (q.trans (by decide)))
        refine lv_tableOut (tgt := 162) hx hb dX11_asked_39 (by omega) (by decide) ?_
        refine lv_aload_n hx hb dX11_asked_162 rfl (lv_at hl 1 rfl) ?_
        refine g_getR hc hG 54 85 flX11_109 rfl rfl rfl dX11_asked_163 ?_
        refine lv_iload_n hx hb dX11_asked_166 rfl (lv_at hl 2 rfl) ?_
        obtain ⟨hi36, h⟩ := g_if h
        refine g_zald hc hG 85 32 (a1.toNatClampNeg) rfl rfl hi36 rfl dX11_asked_167 ?_
        obtain ⟨r38, hm37, h⟩ := g_bv h
        refine g_callSl (As := [.int (S6.1 85 a1.toNatClampNeg)]) hc hG (mX11_is l E hm37) mlX11_244 mcX11_is msX11_is rfl hl.1 rfl rfl ⟨by decide, by decide⟩ (Nat.le_of_ble_eq_true rfl) ⟨by decide, by decide⟩ dX11_asked_168 rfl (fun H locs hG => ?_)
        refine lv_l2i (v := ((r38).toInt32)) hx hb dX11_asked_171 rfl ?_
        exact g_iret hc hG dX11_asked_172 h
      · have h := g_pos c7 h
        refine lv_iconst (v := (-1 : Int32)) hx hb dX11_asked_28 (by decide) ?_
        exact g_iret hc hG dX11_asked_29 h
theorem mX11_asked (l : Launch) (E : GE) {S : GS} {a1 : Int32} {a2 : Int32} {a3 : Int32} {a4 : Int32} {a5 : Int32} {res : (Int32 × GS)} (h : fX11_asked S a1 a2 a3 a4 a5 = some res) : gMet l E yX11_asked cX11_asked 7 (some .int) rmX11_asked [gR E 54, .int a1, .int a2, .int a3, .int a4, .int a5] S (some (.int res.1)) res.2 :=
  g_met (by decide) (Nat.le_of_ble_eq_true rfl) rfl fun p e s m below meth c H ls hc hG hl => wX11_asked_0 hc S a1 a2 a3 a4 a5 H [] ls hl hG h
abbrev rmX11_binds : Room := { frames := 9, cells := 0, slots := 0, locals := 219 }
def fX11_binds (S : GS) (a1 : Int32) (a2 : Int32) (a3 : Int32) (a4 : Int32) (a5 : Int32) (a6 : Int32) : Option (Int32 × GS) := glet (gsi S 54 0 (0 : Int32)) fun S1 => gbv (fX11_isCourt S1 a3) fun r3 => (if r3 = 0 then (some ((-1 : Int32), S1)) else gbv (fX11_isFacts S1 a4) fun r6 => (if r6 = 0 then (some ((-1 : Int32), S1)) else gbd (fX11_isThere S1 a1 a2 a5 a6) fun r9 S10 => (if r9 = 0 then (some ((-1 : Int32), S10)) else (if gib a2 12 = true then gbd (fX11_isBinding S10 a1 (S10.1 79 a2.toNatClampNeg) a3 a4 (S10.1 54 58) a5) fun r14 S15 => gbv (fX11_is S15 r14) fun r17 => (some (((r17).toInt32), S15)) else none))))
set_option maxRecDepth 100000 in
set_option maxHeartbeats 4000000 in
theorem wX11_binds_0 {p : Program} {l : Launch} {e : Env} {s : State} {m : MethodId} {args : Array Value} {below : List Frame} {meth : Method} {c : Code} {E : GE} {res : (Int32 × GS)} (hc : GM E p s m args meth c RX11 cX11_binds 7 (some .int)) : ∀ (S : GS) (a1 : Int32) (a2 : Int32) (a3 : Int32) (a4 : Int32) (a5 : Int32) (a6 : Int32) (H : Heap) (locs : List Loc) (ls : Array Slot), lv_has ls 7 [(0, gR E 54), (1, .int a1), (2, .int a2), (3, .int a3), (4, .int a4), (5, .int a5), (6, .int a6)] → GX E S H locs → fX11_binds S a1 a2 a3 a4 a5 a6 = some res → W p l e rmX11_binds s m args below meth c H locs 0 0 (gZ E below args s (some (.int res.1)) res.2) (F0 m 0 ls []) := by
  obtain ⟨hx, hb, -, -, -, hown, hts, -, -⟩ := id hc
  intro S a1 a2 a3 a4 a5 a6 H locs ls hl hG h
  unfold fX11_binds at h
  refine lv_aload_n hx hb dX11_binds_0 rfl (lv_at hl 0 rfl) ?_
  refine lv_iconst (v := (0 : Int32)) hx hb dX11_binds_1 (by decide) ?_
  refine g_putI hc hG 54 fpX11_115 rfl rfl rfl rfl dX11_binds_2 (fun S1 H locs eS1 hG => ?_)
  have h := g_let eS1 h
  refine lv_aload_n hx hb dX11_binds_5 rfl (lv_at hl 0 rfl) ?_
  refine lv_iload_n hx hb dX11_binds_6 rfl (lv_at hl 3 rfl) ?_
  obtain ⟨r3, hm2, h⟩ := g_bv h
  refine g_callVi (As := [.int a3]) hc hG (mX11_isCourt l E hm2) mlX11_276 mcX11_isCourt miX11_isCourt rfl rfl rfl rfl hl.1 rfl rfl ⟨by decide, by decide⟩ (Nat.le_of_ble_eq_true rfl) ⟨by decide, by decide⟩ dX11_binds_7 rfl (fun H locs hG => ?_)
  refine lv_if_eq (tgt := 34) hx hb dX11_binds_10 (by decide) (fun c4 => ?_) (fun c4 => ?_)
  · have h := g_pos c4 h
    refine lv_iconst (v := (-1 : Int32)) hx hb dX11_binds_34 (by decide) ?_
    exact g_iret hc hG dX11_binds_35 h
  · have h := g_neg c4 h
    refine lv_iload hx hb dX11_binds_13 (lv_at hl 4 rfl) ?_
    obtain ⟨r6, hm5, h⟩ := g_bv h
    refine g_callSi (As := [.int a4]) hc hG (mX11_isFacts l E hm5) mlX11_279 mcX11_isFacts msX11_isFacts rfl hl.1 rfl rfl ⟨by decide, by decide⟩ (Nat.le_of_ble_eq_true rfl) ⟨by decide, by decide⟩ dX11_binds_15 rfl (fun H locs hG => ?_)
    refine lv_if_eq (tgt := 34) hx hb dX11_binds_18 (by decide) (fun c7 => ?_) (fun c7 => ?_)
    · have h := g_pos c7 h
      refine lv_iconst (v := (-1 : Int32)) hx hb dX11_binds_34 (by decide) ?_
      exact g_iret hc hG dX11_binds_35 h
    · have h := g_neg c7 h
      refine lv_aload_n hx hb dX11_binds_21 rfl (lv_at hl 0 rfl) ?_
      refine lv_iload_n hx hb dX11_binds_22 rfl (lv_at hl 1 rfl) ?_
      refine lv_iload_n hx hb dX11_binds_23 rfl (lv_at hl 2 rfl) ?_
      refine lv_iload hx hb dX11_binds_24 (lv_at hl 5 rfl) ?_
      refine lv_iload hx hb dX11_binds_26 (lv_at hl 6 rfl) ?_
      obtain ⟨r9, S10, hm8, h⟩ := g_bd h
      refine g_callVi (As := [.int a1, .int a2, .int a5, .int a6]) hc hG (mX11_isThere l E hm8) mlX11_387 mcX11_isThere miX11_isThere rfl rfl rfl rfl hl.1 rfl rfl ⟨by decide, by decide⟩ (Nat.le_of_ble_eq_true rfl) ⟨by decide, by decide⟩ dX11_binds_28 rfl (fun H locs hG => ?_)
      refine lv_if_ne (tgt := 36) hx hb dX11_binds_31 (by decide) (fun c11 => ?_) (fun c11 => ?_)
      · have h := g_neg c11 h
        refine lv_aload_n hx hb dX11_binds_36 rfl (lv_at hl 0 rfl) ?_
        refine lv_iload_n hx hb dX11_binds_37 rfl (lv_at hl 1 rfl) ?_
        refine lv_aload_n hx hb dX11_binds_38 rfl (lv_at hl 0 rfl) ?_
        refine g_getR hc hG 54 79 flX11_91 rfl rfl rfl dX11_binds_39 ?_
        refine lv_iload_n hx hb dX11_binds_42 rfl (lv_at hl 2 rfl) ?_
        obtain ⟨hi12, h⟩ := g_if h
        refine g_iald hc hG 79 12 (a2.toNatClampNeg) rfl rfl hi12 rfl dX11_binds_43 ?_
        refine lv_iload_n hx hb dX11_binds_44 rfl (lv_at hl 3 rfl) ?_
        refine lv_iload hx hb dX11_binds_45 (lv_at hl 4 rfl) ?_
        refine lv_aload_n hx hb dX11_binds_47 rfl (lv_at hl 0 rfl) ?_
        refine g_getI hc hG 54 flX11_363 rfl rfl dX11_binds_48 ?_
        refine lv_iload hx hb dX11_binds_51 (lv_at hl 5 rfl) ?_
        obtain ⟨r14, S15, hm13, h⟩ := g_bd h
        refine g_callVi (As := [.int a1, .int (S10.1 79 a2.toNatClampNeg), .int a3, .int a4, .int (S10.1 54 58), .int a5]) hc hG (mX11_isBinding l E hm13) mlX11_356 mcX11_isBinding miX11_isBinding rfl rfl rfl rfl hl.1 rfl rfl ⟨by decide, by decide⟩ (Nat.le_of_ble_eq_true rfl) ⟨by decide, by decide⟩ dX11_binds_53 rfl (fun H locs hG => ?_)
        obtain ⟨r17, hm16, h⟩ := g_bv h
        refine g_callSl (As := [.int r14]) hc hG (mX11_is l E hm16) mlX11_244 mcX11_is msX11_is rfl hl.1 rfl rfl ⟨by decide, by decide⟩ (Nat.le_of_ble_eq_true rfl) ⟨by decide, by decide⟩ dX11_binds_56 rfl (fun H locs hG => ?_)
        refine lv_l2i (v := ((r17).toInt32)) hx hb dX11_binds_59 rfl ?_
        exact g_iret hc hG dX11_binds_60 h
      · have h := g_pos c11 h
        refine lv_iconst (v := (-1 : Int32)) hx hb dX11_binds_34 (by decide) ?_
        exact g_iret hc hG dX11_binds_35 h
theorem mX11_binds (l : Launch) (E : GE) {S : GS} {a1 : Int32} {a2 : Int32} {a3 : Int32} {a4 : Int32} {a5 : Int32} {a6 : Int32} {res : (Int32 × GS)} (h : fX11_binds S a1 a2 a3 a4 a5 a6 = some res) : gMet l E yX11_binds cX11_binds 7 (some .int) rmX11_binds [gR E 54, .int a1, .int a2, .int a3, .int a4, .int a5, .int a6] S (some (.int res.1)) res.2 :=
  g_met (by decide) (Nat.le_of_ble_eq_true rfl) rfl fun p e s m below meth c H ls hc hG hl => wX11_binds_0 hc S a1 a2 a3 a4 a5 a6 H [] ls hl hG h
abbrev rmX11_isPeace : Room := { frames := 0, cells := 0, slots := 0, locals := 0 }
def fX11_isPeace_2 : Nat → GS → Int32 → Int32 → Option Int32
  | 0, _, _, _ => none
  | n + 1, S, a1, a2 => (if (S.1 54 33) ≤ a2 then (some (1 : Int32)) else (if ((a1 >>> (a2 &&& 31)) &&& (1 : Int32)) = (1 : Int32) then (if gib a2 12 = true then (if ((S.1 80 a2.toNatClampNeg) &&& a1) = 0 then glet (a2 + (1 : Int32)) fun v6 => (fX11_isPeace_2 n S a1 v6) else (some (0 : Int32))) else none) else glet (a2 + (1 : Int32)) fun v3 => (fX11_isPeace_2 n S a1 v3)))
set_option maxRecDepth 100000 in
set_option maxHeartbeats 4000000 in
theorem wX11_isPeace_2 {p : Program} {l : Launch} {e : Env} {s : State} {m : MethodId} {args : Array Value} {below : List Frame} {meth : Method} {c : Code} {E : GE} {res : Int32} (hc : GM E p s m args meth c RX11 cX11_isPeace 3 (some .boolean)) : ∀ (n : Nat), ∀ (S : GS) (a1 : Int32) (a2 : Int32) (H : Heap) (locs : List Loc) (ls : Array Slot), lv_has ls 3 [(0, gR E 54), (1, .int a1), (2, .int a2)] → GX E S H locs → fX11_isPeace_2 n S a1 a2 = some res → W p l e rmX11_isPeace s m args below meth c H locs 0 0 (gZ E below args s (some (.int res)) S) (F0 m 2 ls []) := by
  obtain ⟨hx, hb, -, -, -, hown, hts, -, -⟩ := id hc
  intro n
  induction n with
  | zero => intro S a1 a2 H locs ls hl hG h; cases h
  | succ n ih =>
    intro S a1 a2 H locs ls hl hG h
    rw [fX11_isPeace_2] at h
    refine lv_iload_n hx hb dX11_isPeace_2 rfl (lv_at hl 2 rfl) ?_
    refine lv_aload_n hx hb dX11_isPeace_3 rfl (lv_at hl 0 rfl) ?_
    refine g_getI hc hG 54 flX11_267 rfl rfl dX11_isPeace_4 ?_
    refine lv_icmp_ge (tgt := 38) hx hb dX11_isPeace_7 (by decide) (fun c1 => ?_) (fun c1 => ?_)
    · have h := g_pos c1 h
      refine lv_iconst (v := (1 : Int32)) hx hb dX11_isPeace_38 (by decide) ?_
      exact g_zretp hc hG (Or.inr rfl) dX11_isPeace_39 h
    · have h := g_neg c1 h
      refine lv_iload_n hx hb dX11_isPeace_10 rfl (lv_at hl 1 rfl) ?_
      refine lv_iload_n hx hb dX11_isPeace_11 rfl (lv_at hl 2 rfl) ?_
      refine lv_ishr hx hb dX11_isPeace_12 ?_
      refine lv_iconst (v := (1 : Int32)) hx hb dX11_isPeace_13 (by decide) ?_
      refine lv_iand hx hb dX11_isPeace_14 ?_
      refine lv_iconst (v := (1 : Int32)) hx hb dX11_isPeace_15 (by decide) ?_
      refine lv_icmp_ne (tgt := 32) hx hb dX11_isPeace_16 (by decide) (fun c2 => ?_) (fun c2 => ?_)
      · have h := g_neg c2 h
        obtain ⟨v3, ev3⟩ : ∃ y : Int32, y = (a2 + (1 : Int32)) := ⟨_, rfl⟩
        have h := g_let ev3 h
        refine lv_iinc (v := v3) (lv' := [(2, .int v3), (0, gR E 54), (1, .int a1)]) hx hb dX11_isPeace_32 hl (k := 2) rfl (by rw [ev3]; rfl) (by decide) rfl (fun ls hl => ?_)
        refine lv_goto (tgt := 2) hx hb dX11_isPeace_35 (by decide) ?_
        exact ih S a1 v3 _ _ _ (lv_sub hl [1, 2, 0] rfl) hG h
      · have h := g_pos c2 h
        refine lv_aload_n hx hb dX11_isPeace_19 rfl (lv_at hl 0 rfl) ?_
        refine g_getR hc hG 54 80 flX11_94 rfl rfl rfl dX11_isPeace_20 ?_
        refine lv_iload_n hx hb dX11_isPeace_23 rfl (lv_at hl 2 rfl) ?_
        obtain ⟨hi4, h⟩ := g_if h
        refine g_iald hc hG 80 12 (a2.toNatClampNeg) rfl rfl hi4 rfl dX11_isPeace_24 ?_
        refine lv_iload_n hx hb dX11_isPeace_25 rfl (lv_at hl 1 rfl) ?_
        refine lv_iand hx hb dX11_isPeace_26 ?_
        refine lv_if_eq (tgt := 32) hx hb dX11_isPeace_27 (by decide) (fun c5 => ?_) (fun c5 => ?_)
        · have h := g_pos c5 h
          obtain ⟨v6, ev6⟩ : ∃ y : Int32, y = (a2 + (1 : Int32)) := ⟨_, rfl⟩
          have h := g_let ev6 h
          refine lv_iinc (v := v6) (lv' := [(2, .int v6), (0, gR E 54), (1, .int a1)]) hx hb dX11_isPeace_32 hl (k := 2) rfl (by rw [ev6]; rfl) (by decide) rfl (fun ls hl => ?_)
          refine lv_goto (tgt := 2) hx hb dX11_isPeace_35 (by decide) ?_
          exact ih S a1 v6 _ _ _ (lv_sub hl [1, 2, 0] rfl) hG h
        · have h := g_neg c5 h
          refine lv_iconst (v := (0 : Int32)) hx hb dX11_isPeace_30 (by decide) ?_
          exact g_zretp hc hG (Or.inl rfl) dX11_isPeace_31 h
def fX11_isPeace (S : GS) (a1 : Int32) : Option Int32 := glet (0 : Int32) fun v1 => (fX11_isPeace_2 FU S a1 v1)
set_option maxRecDepth 100000 in
set_option maxHeartbeats 4000000 in
theorem wX11_isPeace_0 {p : Program} {l : Launch} {e : Env} {s : State} {m : MethodId} {args : Array Value} {below : List Frame} {meth : Method} {c : Code} {E : GE} {res : Int32} (hc : GM E p s m args meth c RX11 cX11_isPeace 3 (some .boolean)) : ∀ (S : GS) (a1 : Int32) (H : Heap) (locs : List Loc) (ls : Array Slot), lv_has ls 3 [(0, gR E 54), (1, .int a1)] → GX E S H locs → fX11_isPeace S a1 = some res → W p l e rmX11_isPeace s m args below meth c H locs 0 0 (gZ E below args s (some (.int res)) S) (F0 m 0 ls []) := by
  obtain ⟨hx, hb, -, -, -, hown, hts, -, -⟩ := id hc
  intro S a1 H locs ls hl hG h
  unfold fX11_isPeace at h
  refine lv_iconst (v := (0 : Int32)) hx hb dX11_isPeace_0 (by decide) ?_
  refine lv_topi (fun v1 ev1 => ?_)
  have h := g_let ev1 h
  refine lv_istore_n (lv' := [(2, .int v1), (0, gR E 54), (1, .int a1)]) hx hb dX11_isPeace_1 rfl hl (by decide) rfl (fun ls hl => ?_)
  exact wX11_isPeace_2 hc FU S a1 v1 _ _ _ (lv_sub hl [1, 2, 0] rfl) hG h
theorem mX11_isPeace (l : Launch) (E : GE) {S : GS} {a1 : Int32} {res : Int32} (h : fX11_isPeace S a1 = some res) : gMet l E yX11_isPeace cX11_isPeace 3 (some .boolean) rmX11_isPeace [gR E 54, .int a1] S (some (.int res)) S :=
  g_met (by decide) (Nat.le_of_ble_eq_true rfl) rfl fun p e s m below meth c H ls hc hG hl => wX11_isPeace_0 hc S a1 H [] ls hl hG h
abbrev rmX11_quarrel : Room := { frames := 8, cells := 0, slots := 0, locals := 195 }
def fX11_quarrel_92 : Nat → GS → Int32 → Int32 → Int32 → Option (Int32 × GS)
  | 0, _, _, _, _ => none
  | n + 1, S, a5, a6, a7 => (if ((1 : Int32) <<< ((S.1 54 33) &&& 31)) ≤ a7 then gbv (fX11_isPeace S a5) fun r3 => (if r3 = 0 then (some (a6, S)) else (some ((0 : Int32), S))) else (if (a7 &&& (a5 ^^^ (-1 : Int32))) = 0 then gbv (fX11_bits S a7) fun r8 => gbv (fX11_bits S a6) fun r10 => (if r10 ≤ r8 then glet (a7 + (1 : Int32)) fun v12 => (fX11_quarrel_92 n S a5 a6 v12) else gbv (fX11_isPeace S (a5 &&& (a7 ^^^ (-1 : Int32)))) fun r14 => (if r14 = 0 then glet (a7 + (1 : Int32)) fun v16 => (fX11_quarrel_92 n S a5 a6 v16) else glet (a7 + (1 : Int32)) fun v17 => (fX11_quarrel_92 n S a5 a7 v17))) else glet (a7 + (1 : Int32)) fun v6 => (fX11_quarrel_92 n S a5 a6 v6)))
set_option maxRecDepth 100000 in
set_option maxHeartbeats 4000000 in
theorem wX11_quarrel_92 {p : Program} {l : Launch} {e : Env} {s : State} {m : MethodId} {args : Array Value} {below : List Frame} {meth : Method} {c : Code} {E : GE} {res : (Int32 × GS)} (hc : GM E p s m args meth c RX11 cX11_quarrel 8 (some .int)) : ∀ (n : Nat), ∀ (S : GS) (a5 : Int32) (a6 : Int32) (a7 : Int32) (H : Heap) (locs : List Loc) (ls : Array Slot), lv_has ls 8 [(0, gR E 54), (5, .int a5), (6, .int a6), (7, .int a7)] → GX E S H locs → fX11_quarrel_92 n S a5 a6 a7 = some res → W p l e rmX11_quarrel s m args below meth c H locs 0 0 (gZ E below args s (some (.int res.1)) res.2) (F0 m 92 ls []) := by
  obtain ⟨hx, hb, -, -, -, hown, hts, -, -⟩ := id hc
  intro n
  induction n with
  | zero => intro S a5 a6 a7 H locs ls hl hG h; cases h
  | succ n ih =>
    intro S a5 a6 a7 H locs ls hl hG h
    rw [fX11_quarrel_92] at h
    refine lv_iload hx hb dX11_quarrel_92 (lv_at hl 3 rfl) ?_
    refine lv_iconst (v := (1 : Int32)) hx hb dX11_quarrel_94 (by decide) ?_
    refine lv_aload_n hx hb dX11_quarrel_95 rfl (lv_at hl 0 rfl) ?_
    refine g_getI hc hG 54 flX11_267 rfl rfl dX11_quarrel_96 ?_
    refine lv_ishl hx hb dX11_quarrel_99 ?_
    refine lv_icmp_ge (tgt := 150) hx hb dX11_quarrel_100 (by decide) (fun c1 => ?_) (fun c1 => ?_)
    · have h := g_pos c1 h
      refine lv_aload_n hx hb dX11_quarrel_150 rfl (lv_at hl 0 rfl) ?_
      refine lv_iload hx hb dX11_quarrel_151 (lv_at hl 1 rfl) ?_
      obtain ⟨r3, hm2, h⟩ := g_bv h
      refine g_callVi (As := [.int a5]) hc hG (mX11_isPeace l E hm2) mlX11_390 mcX11_isPeace miX11_isPeace rfl rfl rfl rfl hl.1 rfl rfl ⟨by decide, by decide⟩ (Nat.le_of_ble_eq_true rfl) ⟨by decide, by decide⟩ dX11_quarrel_153 rfl (fun H locs hG => ?_)
      refine lv_if_eq (tgt := 163) hx hb dX11_quarrel_156 (by decide) (fun c4 => ?_) (fun c4 => ?_)
      · have h := g_pos c4 h
        refine lv_iload hx hb dX11_quarrel_163 (lv_at hl 2 rfl) ?_
        exact g_iret hc hG dX11_quarrel_165 h
      · have h := g_neg c4 h
        refine lv_iconst (v := (0 : Int32)) hx hb dX11_quarrel_159 (by decide) ?_
        refine lv_goto (tgt := 165) hx hb dX11_quarrel_160 (by decide) ?_
        exact g_iret hc hG dX11_quarrel_165 h
    · have h := g_neg c1 h
      refine lv_iload hx hb dX11_quarrel_103 (lv_at hl 3 rfl) ?_
      refine lv_iload hx hb dX11_quarrel_105 (lv_at hl 1 rfl) ?_
      refine lv_iconst (v := (-1 : Int32)) hx hb dX11_quarrel_107 (by decide) ?_
      refine lv_ixor hx hb dX11_quarrel_108 ?_
      refine lv_iand hx hb dX11_quarrel_109 ?_
      refine lv_if_ne (tgt := 144) hx hb dX11_quarrel_110 (by decide) (fun c5 => ?_) (fun c5 => ?_)
      · have h := g_neg c5 h
        obtain ⟨v6, ev6⟩ : ∃ y : Int32, y = (a7 + (1 : Int32)) := ⟨_, rfl⟩
        have h := g_let ev6 h
        refine lv_iinc (v := v6) (lv' := [(7, .int v6), (0, gR E 54), (5, .int a5), (6, .int a6)]) hx hb dX11_quarrel_144 hl (k := 3) rfl (by rw [ev6]; rfl) (by decide) rfl (fun ls hl => ?_)
        refine lv_goto (tgt := 92) hx hb dX11_quarrel_147 (by decide) ?_
        exact ih S a5 a6 v6 _ _ _ (lv_sub hl [1, 2, 3, 0] rfl) hG h
      · have h := g_pos c5 h
        refine lv_iload hx hb dX11_quarrel_113 (lv_at hl 3 rfl) ?_
        obtain ⟨r8, hm7, h⟩ := g_bv h
        refine g_callSi (As := [.int a7]) hc hG (mX11_bits l E hm7) mlX11_315 mcX11_bits msX11_bits rfl hl.1 rfl rfl ⟨by decide, by decide⟩ (Nat.le_of_ble_eq_true rfl) ⟨by decide, by decide⟩ dX11_quarrel_115 rfl (fun H locs hG => ?_)
        refine lv_iload hx hb dX11_quarrel_118 (lv_at hl 2 rfl) ?_
        obtain ⟨r10, hm9, h⟩ := g_bv h
        refine g_callSi (As := [.int a6]) hc hG (mX11_bits l E hm9) mlX11_315 mcX11_bits msX11_bits rfl hl.1 rfl rfl ⟨by decide, by decide⟩ (Nat.le_of_ble_eq_true rfl) ⟨by decide, by decide⟩ dX11_quarrel_120 rfl (fun H locs hG => ?_)
        refine lv_icmp_ge (tgt := 144) hx hb dX11_quarrel_123 (by decide) (fun c11 => ?_) (fun c11 => ?_)
        · have h := g_pos c11 h
          obtain ⟨v12, ev12⟩ : ∃ y : Int32, y = (a7 + (1 : Int32)) := ⟨_, rfl⟩
          have h := g_let ev12 h
          refine lv_iinc (v := v12) (lv' := [(7, .int v12), (0, gR E 54), (5, .int a5), (6, .int a6)]) hx hb dX11_quarrel_144 hl (k := 3) rfl (by rw [ev12]; rfl) (by decide) rfl (fun ls hl => ?_)
          refine lv_goto (tgt := 92) hx hb dX11_quarrel_147 (by decide) ?_
          exact ih S a5 a6 v12 _ _ _ (lv_sub hl [1, 2, 3, 0] rfl) hG h
        · have h := g_neg c11 h
          refine lv_aload_n hx hb dX11_quarrel_126 rfl (lv_at hl 0 rfl) ?_
          refine lv_iload hx hb dX11_quarrel_127 (lv_at hl 1 rfl) ?_
          refine lv_iload hx hb dX11_quarrel_129 (lv_at hl 3 rfl) ?_
          refine lv_iconst (v := (-1 : Int32)) hx hb dX11_quarrel_131 (by decide) ?_
          refine lv_ixor hx hb dX11_quarrel_132 ?_
          refine lv_iand hx hb dX11_quarrel_133 ?_
          obtain ⟨r14, hm13, h⟩ := g_bv h
          refine g_callVi (As := [.int (a5 &&& (a7 ^^^ (-1 : Int32)))]) hc hG (mX11_isPeace l E hm13) mlX11_390 mcX11_isPeace miX11_isPeace rfl rfl rfl rfl hl.1 rfl rfl ⟨by decide, by decide⟩ (Nat.le_of_ble_eq_true rfl) ⟨by decide, by decide⟩ dX11_quarrel_134 rfl (fun H locs hG => ?_)
          refine lv_if_eq (tgt := 144) hx hb dX11_quarrel_137 (by decide) (fun c15 => ?_) (fun c15 => ?_)
          · have h := g_pos c15 h
            obtain ⟨v16, ev16⟩ : ∃ y : Int32, y = (a7 + (1 : Int32)) := ⟨_, rfl⟩
            have h := g_let ev16 h
            refine lv_iinc (v := v16) (lv' := [(7, .int v16), (0, gR E 54), (5, .int a5), (6, .int a6)]) hx hb dX11_quarrel_144 hl (k := 3) rfl (by rw [ev16]; rfl) (by decide) rfl (fun ls hl => ?_)
            refine lv_goto (tgt := 92) hx hb dX11_quarrel_147 (by decide) ?_
            exact ih S a5 a6 v16 _ _ _ (lv_sub hl [1, 2, 3, 0] rfl) hG h
          · have h := g_neg c15 h
            refine lv_iload hx hb dX11_quarrel_140 (lv_at hl 3 rfl) ?_
            refine lv_istore (lv' := [(6, .int a7), (0, gR E 54), (5, .int a5), (7, .int a7)]) hx hb dX11_quarrel_142 hl (by decide) rfl (fun ls hl => ?_)
            obtain ⟨v17, ev17⟩ : ∃ y : Int32, y = (a7 + (1 : Int32)) := ⟨_, rfl⟩
            have h := g_let ev17 h
            refine lv_iinc (v := v17) (lv' := [(7, .int v17), (6, .int a7), (0, gR E 54), (5, .int a5)]) hx hb dX11_quarrel_144 hl (k := 3) rfl (by rw [ev17]; rfl) (by decide) rfl (fun ls hl => ?_)
            refine lv_goto (tgt := 92) hx hb dX11_quarrel_147 (by decide) ?_
            exact ih S a5 a7 v17 _ _ _ (lv_sub hl [2, 3, 1, 0] rfl) hG h
def fX11_quarrel_37 : Nat → GS → Int32 → Int32 → Int32 → Int32 → Option (Int32 × GS)
  | 0, _, _, _, _, _ => none
  | n + 1, S, a1, a2, a5, a6 => (if (S.1 54 33) ≤ a6 then glet (0 : Int32) fun v2 => (fX11_quarrel_92 FU S a5 a5 v2) else (if gib a6 12 = true then (if (S.1 79 a6.toNatClampNeg) = a6 then gbd (fX11_standOf S a6 a1 a2) fun r7 S8 => (if r7 < (3 : Int32) then glet (a6 + (1 : Int32)) fun v10 => (fX11_quarrel_37 n S8 a1 a2 a5 v10) else glet (a5 ||| ((1 : Int32) <<< (a6 &&& 31))) fun v11 => glet (a6 + (1 : Int32)) fun v12 => (fX11_quarrel_37 n S8 a1 a2 v11 v12)) else glet (a6 + (1 : Int32)) fun v5 => (fX11_quarrel_37 n S a1 a2 a5 v5)) else none))
set_option maxRecDepth 100000 in
set_option maxHeartbeats 4000000 in
theorem wX11_quarrel_37 {p : Program} {l : Launch} {e : Env} {s : State} {m : MethodId} {args : Array Value} {below : List Frame} {meth : Method} {c : Code} {E : GE} {res : (Int32 × GS)} (hc : GM E p s m args meth c RX11 cX11_quarrel 8 (some .int)) : ∀ (n : Nat), ∀ (S : GS) (a1 : Int32) (a2 : Int32) (a5 : Int32) (a6 : Int32) (H : Heap) (locs : List Loc) (ls : Array Slot), lv_has ls 8 [(0, gR E 54), (1, .int a1), (2, .int a2), (5, .int a5), (6, .int a6)] → GX E S H locs → fX11_quarrel_37 n S a1 a2 a5 a6 = some res → W p l e rmX11_quarrel s m args below meth c H locs 0 0 (gZ E below args s (some (.int res.1)) res.2) (F0 m 37 ls []) := by
  obtain ⟨hx, hb, -, -, -, hown, hts, -, -⟩ := id hc
  intro n
  induction n with
  | zero => intro S a1 a2 a5 a6 H locs ls hl hG h; cases h
  | succ n ih =>
    intro S a1 a2 a5 a6 H locs ls hl hG h
    rw [fX11_quarrel_37] at h
    refine lv_iload hx hb dX11_quarrel_37 (lv_at hl 4 rfl) ?_
    refine lv_aload_n hx hb dX11_quarrel_39 rfl (lv_at hl 0 rfl) ?_
    refine g_getI hc hG 54 flX11_267 rfl rfl dX11_quarrel_40 ?_
    refine lv_icmp_ge (tgt := 85) hx hb dX11_quarrel_43 (by decide) (fun c1 => ?_) (fun c1 => ?_)
    · have h := g_pos c1 h
      refine lv_iload hx hb dX11_quarrel_85 (lv_at hl 3 rfl) ?_
      refine lv_istore (lv' := [(6, .int a5), (0, gR E 54), (1, .int a1), (2, .int a2), (5, .int a5)]) hx hb dX11_quarrel_87 hl (by decide) rfl (fun ls hl => ?_)
      refine lv_iconst (v := (0 : Int32)) hx hb dX11_quarrel_89 (by decide) ?_
      refine lv_topi (fun v2 ev2 => ?_)
      have h := g_let ev2 h
      refine lv_istore (lv' := [(7, .int v2), (6, .int a5), (0, gR E 54), (1, .int a1), (2, .int a2), (5, .int a5)]) hx hb dX11_quarrel_90 hl (by decide) rfl (fun ls hl => ?_)
      exact wX11_quarrel_92 hc FU S a5 a5 v2 _ _ _ (lv_sub hl [2, 5, 1, 0] rfl) hG h
    · have h := g_neg c1 h
      refine lv_aload_n hx hb dX11_quarrel_46 rfl (lv_at hl 0 rfl) ?_
      refine g_getR hc hG 54 79 flX11_91 rfl rfl rfl dX11_quarrel_47 ?_
      refine lv_iload hx hb dX11_quarrel_50 (lv_at hl 4 rfl) ?_
      obtain ⟨hi3, h⟩ := g_if h
      refine g_iald hc hG 79 12 (a6.toNatClampNeg) rfl rfl hi3 rfl dX11_quarrel_52 ?_
      refine lv_iload hx hb dX11_quarrel_53 (lv_at hl 4 rfl) ?_
      refine lv_icmp_ne (tgt := 79) hx hb dX11_quarrel_55 (by decide) (fun c4 => ?_) (fun c4 => ?_)
      · have h := g_neg c4 h
        obtain ⟨v5, ev5⟩ : ∃ y : Int32, y = (a6 + (1 : Int32)) := ⟨_, rfl⟩
        have h := g_let ev5 h
        refine lv_iinc (v := v5) (lv' := [(6, .int v5), (0, gR E 54), (1, .int a1), (2, .int a2), (5, .int a5)]) hx hb dX11_quarrel_79 hl (k := 4) rfl (by rw [ev5]; rfl) (by decide) rfl (fun ls hl => ?_)
        refine lv_goto (tgt := 37) hx hb dX11_quarrel_82 (by decide) ?_
        exact ih S a1 a2 a5 v5 _ _ _ (lv_sub hl [1, 2, 3, 4, 0] rfl) hG h
      · have h := g_pos c4 h
        refine lv_aload_n hx hb dX11_quarrel_58 rfl (lv_at hl 0 rfl) ?_
        refine lv_iload hx hb dX11_quarrel_59 (lv_at hl 4 rfl) ?_
        refine lv_iload_n hx hb dX11_quarrel_61 rfl (lv_at hl 1 rfl) ?_
        refine lv_iload_n hx hb dX11_quarrel_62 rfl (lv_at hl 2 rfl) ?_
        obtain ⟨r7, S8, hm6, h⟩ := g_bd h
        refine g_callVi (As := [.int a6, .int a1, .int a2]) hc hG (mX11_standOf l E hm6) mlX11_384 mcX11_standOf miX11_standOf rfl rfl rfl rfl hl.1 rfl rfl ⟨by decide, by decide⟩ (Nat.le_of_ble_eq_true rfl) ⟨by decide, by decide⟩ dX11_quarrel_63 rfl (fun H locs hG => ?_)
        refine lv_iconst (v := (3 : Int32)) hx hb dX11_quarrel_66 (by decide) ?_
        refine lv_icmp_lt (tgt := 79) hx hb dX11_quarrel_67 (by decide) (fun c9 => ?_) (fun c9 => ?_)
        · have h := g_pos c9 h
          obtain ⟨v10, ev10⟩ : ∃ y : Int32, y = (a6 + (1 : Int32)) := ⟨_, rfl⟩
          have h := g_let ev10 h
          refine lv_iinc (v := v10) (lv' := [(6, .int v10), (0, gR E 54), (1, .int a1), (2, .int a2), (5, .int a5)]) hx hb dX11_quarrel_79 hl (k := 4) rfl (by rw [ev10]; rfl) (by decide) rfl (fun ls hl => ?_)
          refine lv_goto (tgt := 37) hx hb dX11_quarrel_82 (by decide) ?_
          exact ih S8 a1 a2 a5 v10 _ _ _ (lv_sub hl [1, 2, 3, 4, 0] rfl) hG h
        · have h := g_neg c9 h
          refine lv_iload hx hb dX11_quarrel_70 (lv_at hl 3 rfl) ?_
          refine lv_iconst (v := (1 : Int32)) hx hb dX11_quarrel_72 (by decide) ?_
          refine lv_iload hx hb dX11_quarrel_73 (lv_at hl 4 rfl) ?_
          refine lv_ishl hx hb dX11_quarrel_75 ?_
          refine lv_ior hx hb dX11_quarrel_76 ?_
          refine lv_topi (fun v11 ev11 => ?_)
          have h := g_let ev11 h
          refine lv_istore (lv' := [(5, .int v11), (0, gR E 54), (1, .int a1), (2, .int a2), (6, .int a6)]) hx hb dX11_quarrel_77 hl (by decide) rfl (fun ls hl => ?_)
          obtain ⟨v12, ev12⟩ : ∃ y : Int32, y = (a6 + (1 : Int32)) := ⟨_, rfl⟩
          have h := g_let ev12 h
          refine lv_iinc (v := v12) (lv' := [(6, .int v12), (5, .int v11), (0, gR E 54), (1, .int a1), (2, .int a2)]) hx hb dX11_quarrel_79 hl (k := 4) rfl (by rw [ev12]; rfl) (by decide) rfl (fun ls hl => ?_)
          refine lv_goto (tgt := 37) hx hb dX11_quarrel_82 (by decide) ?_
          exact ih S8 a1 a2 v11 v12 _ _ _ (lv_sub hl [2, 3, 4, 1, 0] rfl) hG h
def fX11_quarrel (S : GS) (a1 : Int32) (a2 : Int32) (a3 : Int32) (a4 : Int32) : Option (Int32 × GS) := glet (gsi S 54 0 (0 : Int32)) fun S1 => gbv (fX11_isAsked S1 a1 a2 a3 a4) fun r3 => (if r3 = 0 then (some ((-1 : Int32), S1)) else gbd (fX11_knows S1 a4 (-1 : Int32)) fun r6 S7 => gbd (fX11_asOf S7 a3) fun r9 S10 => glet (0 : Int32) fun v11 => glet (0 : Int32) fun v12 => (fX11_quarrel_37 FU S10 a1 a2 v11 v12))
set_option maxRecDepth 100000 in
set_option maxHeartbeats 4000000 in
theorem wX11_quarrel_0 {p : Program} {l : Launch} {e : Env} {s : State} {m : MethodId} {args : Array Value} {below : List Frame} {meth : Method} {c : Code} {E : GE} {res : (Int32 × GS)} (hc : GM E p s m args meth c RX11 cX11_quarrel 8 (some .int)) : ∀ (S : GS) (a1 : Int32) (a2 : Int32) (a3 : Int32) (a4 : Int32) (H : Heap) (locs : List Loc) (ls : Array Slot), lv_has ls 8 [(0, gR E 54), (1, .int a1), (2, .int a2), (3, .int a3), (4, .int a4)] → GX E S H locs → fX11_quarrel S a1 a2 a3 a4 = some res → W p l e rmX11_quarrel s m args below meth c H locs 0 0 (gZ E below args s (some (.int res.1)) res.2) (F0 m 0 ls []) := by
  obtain ⟨hx, hb, -, -, -, hown, hts, -, -⟩ := id hc
  intro S a1 a2 a3 a4 H locs ls hl hG h
  unfold fX11_quarrel at h
  refine lv_aload_n hx hb dX11_quarrel_0 rfl (lv_at hl 0 rfl) ?_
  refine lv_iconst (v := (0 : Int32)) hx hb dX11_quarrel_1 (by decide) ?_
  refine g_putI hc hG 54 fpX11_115 rfl rfl rfl rfl dX11_quarrel_2 (fun S1 H locs eS1 hG => ?_)
  have h := g_let eS1 h
  refine lv_aload_n hx hb dX11_quarrel_5 rfl (lv_at hl 0 rfl) ?_
  refine lv_iload_n hx hb dX11_quarrel_6 rfl (lv_at hl 1 rfl) ?_
  refine lv_iload_n hx hb dX11_quarrel_7 rfl (lv_at hl 2 rfl) ?_
  refine lv_iload_n hx hb dX11_quarrel_8 rfl (lv_at hl 3 rfl) ?_
  refine lv_iload hx hb dX11_quarrel_9 (lv_at hl 4 rfl) ?_
  obtain ⟨r3, hm2, h⟩ := g_bv h
  refine g_callVi (As := [.int a1, .int a2, .int a3, .int a4]) hc hG (mX11_isAsked l E hm2) mlX11_375 mcX11_isAsked miX11_isAsked rfl rfl rfl rfl hl.1 rfl rfl ⟨by decide, by decide⟩ (Nat.le_of_ble_eq_true rfl) ⟨by decide, by decide⟩ dX11_quarrel_11 rfl (fun H locs hG => ?_)
  refine lv_if_ne (tgt := 19) hx hb dX11_quarrel_14 (by decide) (fun c4 => ?_) (fun c4 => ?_)
  · have h := g_neg c4 h
    refine lv_aload_n hx hb dX11_quarrel_19 rfl (lv_at hl 0 rfl) ?_
    refine lv_iload hx hb dX11_quarrel_20 (lv_at hl 4 rfl) ?_
    refine lv_iconst (v := (-1 : Int32)) hx hb dX11_quarrel_22 (by decide) ?_
    obtain ⟨r6, S7, hm5, h⟩ := g_bd h
    refine g_callVv (As := [.int a4, .int (-1 : Int32)]) hc hG (mX11_knows l E hm5) mlX11_379 mcX11_knows miX11_knows rfl rfl rfl rfl hl.1 rfl rfl ⟨by decide, by decide⟩ (Nat.le_of_ble_eq_true rfl) ⟨by decide, by decide⟩ dX11_quarrel_23 rfl (fun H locs hG => ?_)
    refine lv_aload_n hx hb dX11_quarrel_26 rfl (lv_at hl 0 rfl) ?_
    refine lv_iload_n hx hb dX11_quarrel_27 rfl (lv_at hl 3 rfl) ?_
    obtain ⟨r9, S10, hm8, h⟩ := g_bd h
    refine g_callVv (As := [.int a3]) hc hG (mX11_asOf l E hm8) mlX11_382 mcX11_asOf miX11_asOf rfl rfl rfl rfl hl.1 rfl rfl ⟨by decide, by decide⟩ (Nat.le_of_ble_eq_true rfl) ⟨by decide, by decide⟩ dX11_quarrel_28 rfl (fun H locs hG => ?_)
    refine lv_iconst (v := (0 : Int32)) hx hb dX11_quarrel_31 (by decide) ?_
    refine lv_topi (fun v11 ev11 => ?_)
    have h := g_let ev11 h
    refine lv_istore (lv' := [(5, .int v11), (0, gR E 54), (1, .int a1), (2, .int a2), (3, .int a3), (4, .int a4)]) hx hb dX11_quarrel_32 hl (by decide) rfl (fun ls hl => ?_)
    refine lv_iconst (v := (0 : Int32)) hx hb dX11_quarrel_34 (by decide) ?_
    refine lv_topi (fun v12 ev12 => ?_)
    have h := g_let ev12 h
    refine lv_istore (lv' := [(6, .int v12), (5, .int v11), (0, gR E 54), (1, .int a1), (2, .int a2), (3, .int a3), (4, .int a4)]) hx hb dX11_quarrel_35 hl (by decide) rfl (fun ls hl => ?_)
    exact wX11_quarrel_37 hc FU S10 a1 a2 v11 v12 _ _ _ (lv_sub hl [2, 3, 4, 1, 0] rfl) hG h
  · have h := g_pos c4 h
    refine lv_iconst (v := (-1 : Int32)) hx hb dX11_quarrel_17 (by decide) ?_
    exact g_iret hc hG dX11_quarrel_18 h
theorem mX11_quarrel (l : Launch) (E : GE) {S : GS} {a1 : Int32} {a2 : Int32} {a3 : Int32} {a4 : Int32} {res : (Int32 × GS)} (h : fX11_quarrel S a1 a2 a3 a4 = some res) : gMet l E yX11_quarrel cX11_quarrel 8 (some .int) rmX11_quarrel [gR E 54, .int a1, .int a2, .int a3, .int a4] S (some (.int res.1)) res.2 :=
  g_met (by decide) (Nat.le_of_ble_eq_true rfl) rfl fun p e s m below meth c H ls hc hG hl => wX11_quarrel_0 hc S a1 a2 a3 a4 H [] ls hl hG h
abbrev rmX11_forgotten : Room := { frames := 8, cells := 0, slots := 0, locals := 195 }
def fX11_forgotten (S : GS) (a1 : Int32) (a2 : Int32) : Option (Int32 × GS) := glet (gsi S 54 0 (0 : Int32)) fun S1 => gbv (fX11_isCase S1 a1) fun r3 => (if r3 = 0 then (some ((0 : Int32), S1)) else gbv (fX11_isDay S1 a2) fun r6 => (if r6 = 0 then (some ((0 : Int32), S1)) else gbd (fX11_knows S1 a2 (-1 : Int32)) fun r9 S10 => (if gib a1 32 = true then (if (S10.1 82 a1.toNatClampNeg) = (-1 : Int32) then (some ((0 : Int32), S10)) else (some ((S10.1 84 a1.toNatClampNeg), S10))) else none)))
set_option maxRecDepth 100000 in
set_option maxHeartbeats 4000000 in
theorem wX11_forgotten_0 {p : Program} {l : Launch} {e : Env} {s : State} {m : MethodId} {args : Array Value} {below : List Frame} {meth : Method} {c : Code} {E : GE} {res : (Int32 × GS)} (hc : GM E p s m args meth c RX11 cX11_forgotten 3 (some .int)) : ∀ (S : GS) (a1 : Int32) (a2 : Int32) (H : Heap) (locs : List Loc) (ls : Array Slot), lv_has ls 3 [(0, gR E 54), (1, .int a1), (2, .int a2)] → GX E S H locs → fX11_forgotten S a1 a2 = some res → W p l e rmX11_forgotten s m args below meth c H locs 0 0 (gZ E below args s (some (.int res.1)) res.2) (F0 m 0 ls []) := by
  obtain ⟨hx, hb, -, -, -, hown, hts, -, -⟩ := id hc
  intro S a1 a2 H locs ls hl hG h
  unfold fX11_forgotten at h
  refine lv_aload_n hx hb dX11_forgotten_0 rfl (lv_at hl 0 rfl) ?_
  refine lv_iconst (v := (0 : Int32)) hx hb dX11_forgotten_1 (by decide) ?_
  refine g_putI hc hG 54 fpX11_115 rfl rfl rfl rfl dX11_forgotten_2 (fun S1 H locs eS1 hG => ?_)
  have h := g_let eS1 h
  refine lv_aload_n hx hb dX11_forgotten_5 rfl (lv_at hl 0 rfl) ?_
  refine lv_iload_n hx hb dX11_forgotten_6 rfl (lv_at hl 1 rfl) ?_
  obtain ⟨r3, hm2, h⟩ := g_bv h
  refine g_callVi (As := [.int a1]) hc hG (mX11_isCase l E hm2) mlX11_285 mcX11_isCase miX11_isCase rfl rfl rfl rfl hl.1 rfl rfl ⟨by decide, by decide⟩ (Nat.le_of_ble_eq_true rfl) ⟨by decide, by decide⟩ dX11_forgotten_7 rfl (fun H locs hG => ?_)
  refine lv_if_eq (tgt := 20) hx hb dX11_forgotten_10 (by decide) (fun c4 => ?_) (fun c4 => ?_)
  · have h := g_pos c4 h
    refine lv_iconst (v := (0 : Int32)) hx hb dX11_forgotten_20 (by decide) ?_
    exact g_iret hc hG dX11_forgotten_21 h
  · have h := g_neg c4 h
    refine lv_iload_n hx hb dX11_forgotten_13 rfl (lv_at hl 2 rfl) ?_
    obtain ⟨r6, hm5, h⟩ := g_bv h
    refine g_callSi (As := [.int a2]) hc hG (mX11_isDay l E hm5) mlX11_296 mcX11_isDay msX11_isDay rfl hl.1 rfl rfl ⟨by decide, by decide⟩ (Nat.le_of_ble_eq_true rfl) ⟨by decide, by decide⟩ dX11_forgotten_14 rfl (fun H locs hG => ?_)
    refine lv_if_ne (tgt := 22) hx hb dX11_forgotten_17 (by decide) (fun c7 => ?_) (fun c7 => ?_)
    · have h := g_neg c7 h
      refine lv_aload_n hx hb dX11_forgotten_22 rfl (lv_at hl 0 rfl) ?_
      refine lv_iload_n hx hb dX11_forgotten_23 rfl (lv_at hl 2 rfl) ?_
      refine lv_iconst (v := (-1 : Int32)) hx hb dX11_forgotten_24 (by decide) ?_
      obtain ⟨r9, S10, hm8, h⟩ := g_bd h
      refine g_callVv (As := [.int a2, .int (-1 : Int32)]) hc hG (mX11_knows l E hm8) mlX11_379 mcX11_knows miX11_knows rfl rfl rfl rfl hl.1 rfl rfl ⟨by decide, by decide⟩ (Nat.le_of_ble_eq_true rfl) ⟨by decide, by decide⟩ dX11_forgotten_25 rfl (fun H locs hG => ?_)
      refine lv_aload_n hx hb dX11_forgotten_28 rfl (lv_at hl 0 rfl) ?_
      refine g_getR hc hG 54 82 flX11_100 rfl rfl rfl dX11_forgotten_29 ?_
      refine lv_iload_n hx hb dX11_forgotten_32 rfl (lv_at hl 1 rfl) ?_
      obtain ⟨hi11, h⟩ := g_if h
      refine g_iald hc hG 82 32 (a1.toNatClampNeg) rfl rfl hi11 rfl dX11_forgotten_33 ?_
      refine lv_iconst (v := (-1 : Int32)) hx hb dX11_forgotten_34 (by decide) ?_
      refine lv_icmp_ne (tgt := 42) hx hb dX11_forgotten_35 (by decide) (fun c12 => ?_) (fun c12 => ?_)
      · have h := g_neg c12 h
        refine lv_aload_n hx hb dX11_forgotten_42 rfl (lv_at hl 0 rfl) ?_
        refine g_getR hc hG 54 84 flX11_106 rfl rfl rfl dX11_forgotten_43 ?_
        refine lv_iload_n hx hb dX11_forgotten_46 rfl (lv_at hl 1 rfl) ?_
        refine g_iald hc hG 84 32 (a1.toNatClampNeg) rfl rfl hi11 rfl dX11_forgotten_47 ?_
        exact g_iret hc hG dX11_forgotten_48 h
      · have h := g_pos c12 h
        refine lv_iconst (v := (0 : Int32)) hx hb dX11_forgotten_38 (by decide) ?_
        refine lv_goto (tgt := 48) hx hb dX11_forgotten_39 (by decide) ?_
        exact g_iret hc hG dX11_forgotten_48 h
    · have h := g_pos c7 h
      refine lv_iconst (v := (0 : Int32)) hx hb dX11_forgotten_20 (by decide) ?_
      exact g_iret hc hG dX11_forgotten_21 h
theorem mX11_forgotten (l : Launch) (E : GE) {S : GS} {a1 : Int32} {a2 : Int32} {res : (Int32 × GS)} (h : fX11_forgotten S a1 a2 = some res) : gMet l E yX11_forgotten cX11_forgotten 3 (some .int) rmX11_forgotten [gR E 54, .int a1, .int a2] S (some (.int res.1)) res.2 :=
  g_met (by decide) (Nat.le_of_ble_eq_true rfl) rfl fun p e s m below meth c H ls hc hG hl => wX11_forgotten_0 hc S a1 a2 H [] ls hl hG h
abbrev rmX11_parts : Room := { frames := 3, cells := 0, slots := 0, locals := 70 }
def fX11_parts_45 (k3 : GS → Int32 → Int32 → Int32 → Int32 → Option Int32) : Nat → GS → Int32 → Int32 → Int32 → Int32 → Int32 → Option Int32
  | 0, _, _, _, _, _, _ => none
  | n + 1, S, a1, a2, a3, a4, a5 => (if (S.1 54 58) ≤ a5 then glet (a4 + (1 : Int32)) fun v2 => (k3 S a1 a2 a3 v2) else (if gib a4 32 = true then (if gib (S.1 81 a4.toNatClampNeg) 32 = true then (if gib a5 32 = true then (if gib (S.1 81 a5.toNatClampNeg) 32 = true then (if (((S.1 69 ((S.1 81 a4.toNatClampNeg)).toNatClampNeg) ^^^ (S.1 69 ((S.1 81 a5.toNatClampNeg)).toNatClampNeg)) &&& a1) = 0 then gbv (fX11_isHeld S (S.1 81 a5.toNatClampNeg) a3 (S.1 69 ((S.1 81 a5.toNatClampNeg)).toNatClampNeg)) fun r10 => (if r10 = 0 then glet (a5 + (1 : Int32)) fun v12 => (fX11_parts_45 k3 n S a1 a2 a3 a4 v12) else (some (0 : Int32))) else glet (a5 + (1 : Int32)) fun v8 => (fX11_parts_45 k3 n S a1 a2 a3 a4 v8)) else none) else none) else none) else none))
set_option maxRecDepth 100000 in
set_option maxHeartbeats 4000000 in
theorem wX11_parts_45 {p : Program} {l : Launch} {e : Env} {s : State} {m : MethodId} {args : Array Value} {below : List Frame} {meth : Method} {c : Code} {E : GE} {res : Int32} {k3 : GS → Int32 → Int32 → Int32 → Int32 → Option Int32} (hc : GM E p s m args meth c RX11 cX11_parts 6 (some .boolean)) (hk3 : ∀ (S : GS) (a1 : Int32) (a2 : Int32) (a3 : Int32) (a4 : Int32) (H : Heap) (locs : List Loc) (ls : Array Slot), lv_has ls 6 [(0, gR E 54), (1, .int a1), (2, .int a2), (3, .int a3), (4, .int a4)] → GX E S H locs → k3 S a1 a2 a3 a4 = some res → W p l e rmX11_parts s m args below meth c H locs 0 0 (gZ E below args s (some (.int res)) S) (F0 m 3 ls [])) : ∀ (n : Nat), ∀ (S : GS) (a1 : Int32) (a2 : Int32) (a3 : Int32) (a4 : Int32) (a5 : Int32) (H : Heap) (locs : List Loc) (ls : Array Slot), lv_has ls 6 [(0, gR E 54), (1, .int a1), (2, .int a2), (3, .int a3), (4, .int a4), (5, .int a5)] → GX E S H locs → fX11_parts_45 k3 n S a1 a2 a3 a4 a5 = some res → W p l e rmX11_parts s m args below meth c H locs 0 0 (gZ E below args s (some (.int res)) S) (F0 m 45 ls []) := by
  obtain ⟨hx, hb, -, -, -, hown, hts, -, -⟩ := id hc
  intro n
  induction n with
  | zero => intro S a1 a2 a3 a4 a5 H locs ls hl hG h; cases h
  | succ n ih =>
    intro S a1 a2 a3 a4 a5 H locs ls hl hG h
    rw [fX11_parts_45] at h
    refine lv_iload hx hb dX11_parts_45 (lv_at hl 5 rfl) ?_
    refine lv_aload_n hx hb dX11_parts_47 rfl (lv_at hl 0 rfl) ?_
    refine g_getI hc hG 54 flX11_363 rfl rfl dX11_parts_48 ?_
    refine lv_icmp_ge (tgt := 119) hx hb dX11_parts_51 (by decide) (fun c1 => ?_) (fun c1 => ?_)
    · have h := g_pos c1 h
      obtain ⟨v2, ev2⟩ : ∃ y : Int32, y = (a4 + (1 : Int32)) := ⟨_, rfl⟩
      have h := g_let ev2 h
      refine lv_iinc (v := v2) (lv' := [(4, .int v2), (0, gR E 54), (1, .int a1), (2, .int a2), (3, .int a3), (5, .int a5)]) hx hb dX11_parts_119 hl (k := 4) rfl (by rw [ev2]; rfl) (by decide) rfl (fun ls hl => ?_)
      refine lv_goto (tgt := 3) hx hb dX11_parts_122 (by decide) ?_
      exact hk3 S a1 a2 a3 v2 _ _ _ (lv_sub hl [1, 2, 3, 4, 0] rfl) hG h
    · have h := g_neg c1 h
      refine lv_aload_n hx hb dX11_parts_54 rfl (lv_at hl 0 rfl) ?_
      refine g_getR hc hG 54 69 flX11_61 rfl rfl rfl dX11_parts_55 ?_
      refine lv_aload_n hx hb dX11_parts_58 rfl (lv_at hl 0 rfl) ?_
      refine g_getR hc hG 54 81 flX11_97 rfl rfl rfl dX11_parts_59 ?_
      refine lv_iload hx hb dX11_parts_62 (lv_at hl 4 rfl) ?_
      obtain ⟨hi3, h⟩ := g_if h
      refine g_iald hc hG 81 32 (a4.toNatClampNeg) rfl rfl hi3 rfl dX11_parts_64 ?_
      obtain ⟨hi4, h⟩ := g_if h
      refine g_iald hc hG 69 32 (((S.1 81 a4.toNatClampNeg)).toNatClampNeg) rfl rfl hi4 rfl dX11_parts_65 ?_
      refine lv_aload_n hx hb dX11_parts_66 rfl (lv_at hl 0 rfl) ?_
      refine g_getR hc hG 54 69 flX11_61 rfl rfl rfl dX11_parts_67 ?_
      refine lv_aload_n hx hb dX11_parts_70 rfl (lv_at hl 0 rfl) ?_
      refine g_getR hc hG 54 81 flX11_97 rfl rfl rfl dX11_parts_71 ?_
      refine lv_iload hx hb dX11_parts_74 (lv_at hl 5 rfl) ?_
      obtain ⟨hi5, h⟩ := g_if h
      refine g_iald hc hG 81 32 (a5.toNatClampNeg) rfl rfl hi5 rfl dX11_parts_76 ?_
      obtain ⟨hi6, h⟩ := g_if h
      refine g_iald hc hG 69 32 (((S.1 81 a5.toNatClampNeg)).toNatClampNeg) rfl rfl hi6 rfl dX11_parts_77 ?_
      refine lv_ixor hx hb dX11_parts_78 ?_
      refine lv_iload_n hx hb dX11_parts_79 rfl (lv_at hl 1 rfl) ?_
      refine lv_iand hx hb dX11_parts_80 ?_
      refine lv_if_ne (tgt := 113) hx hb dX11_parts_81 (by decide) (fun c7 => ?_) (fun c7 => ?_)
      · have h := g_neg c7 h
        obtain ⟨v8, ev8⟩ : ∃ y : Int32, y = (a5 + (1 : Int32)) := ⟨_, rfl⟩
        have h := g_let ev8 h
        refine lv_iinc (v := v8) (lv' := [(5, .int v8), (0, gR E 54), (1, .int a1), (2, .int a2), (3, .int a3), (4, .int a4)]) hx hb dX11_parts_113 hl (k := 5) rfl (by rw [ev8]; rfl) (by decide) rfl (fun ls hl => ?_)
        refine lv_goto (tgt := 45) hx hb dX11_parts_116 (by decide) ?_
        exact ih S a1 a2 a3 a4 v8 _ _ _ (lv_sub hl [1, 2, 3, 4, 5, 0] rfl) hG h
      · have h := g_pos c7 h
        refine lv_aload_n hx hb dX11_parts_84 rfl (lv_at hl 0 rfl) ?_
        refine lv_aload_n hx hb dX11_parts_85 rfl (lv_at hl 0 rfl) ?_
        refine g_getR hc hG 54 81 flX11_97 rfl rfl rfl dX11_parts_86 ?_
        refine lv_iload hx hb dX11_parts_89 (lv_at hl 5 rfl) ?_
        refine g_iald hc hG 81 32 (a5.toNatClampNeg) rfl rfl hi5 rfl dX11_parts_91 ?_
        refine lv_iload_n hx hb dX11_parts_92 rfl (lv_at hl 3 rfl) ?_
        refine lv_aload_n hx hb dX11_parts_93 rfl (lv_at hl 0 rfl) ?_
        refine g_getR hc hG 54 69 flX11_61 rfl rfl rfl dX11_parts_94 ?_
        refine lv_aload_n hx hb dX11_parts_97 rfl (lv_at hl 0 rfl) ?_
        refine g_getR hc hG 54 81 flX11_97 rfl rfl rfl dX11_parts_98 ?_
        refine lv_iload hx hb dX11_parts_101 (lv_at hl 5 rfl) ?_
        refine g_iald hc hG 81 32 (a5.toNatClampNeg) rfl rfl hi5 rfl dX11_parts_103 ?_
        refine g_iald hc hG 69 32 (((S.1 81 a5.toNatClampNeg)).toNatClampNeg) rfl rfl hi6 rfl dX11_parts_104 ?_
        obtain ⟨r10, hm9, h⟩ := g_bv h
        refine g_callVi (As := [.int (S.1 81 a5.toNatClampNeg), .int a3, .int (S.1 69 ((S.1 81 a5.toNatClampNeg)).toNatClampNeg)]) hc hG (mX11_isHeld l E hm9) mlX11_332 mcX11_isHeld miX11_isHeld rfl rfl rfl rfl hl.1 rfl rfl ⟨by decide, by decide⟩ (Nat.le_of_ble_eq_true rfl) ⟨by decide, by decide⟩ dX11_parts_105 rfl (fun H locs hG => ?_)
        refine lv_if_eq (tgt := 113) hx hb dX11_parts_108 (by decide) (fun c11 => ?_) (fun c11 => ?_)
        · have h := g_pos c11 h
          obtain ⟨v12, ev12⟩ : ∃ y : Int32, y = (a5 + (1 : Int32)) := ⟨_, rfl⟩
          have h := g_let ev12 h
          refine lv_iinc (v := v12) (lv' := [(5, .int v12), (0, gR E 54), (1, .int a1), (2, .int a2), (3, .int a3), (4, .int a4)]) hx hb dX11_parts_113 hl (k := 5) rfl (by rw [ev12]; rfl) (by decide) rfl (fun ls hl => ?_)
          refine lv_goto (tgt := 45) hx hb dX11_parts_116 (by decide) ?_
          exact ih S a1 a2 a3 a4 v12 _ _ _ (lv_sub hl [1, 2, 3, 4, 5, 0] rfl) hG h
        · have h := g_neg c11 h
          refine lv_iconst (v := (0 : Int32)) hx hb dX11_parts_111 (by decide) ?_
          exact g_zretp hc hG (Or.inl rfl) dX11_parts_112 h
def fX11_parts_3 : Nat → GS → Int32 → Int32 → Int32 → Int32 → Option Int32
  | 0, _, _, _, _, _ => none
  | n + 1, S, a1, a2, a3, a4 => (if (S.1 54 58) ≤ a4 then (some (1 : Int32)) else (if gib a4 32 = true then (if gib (S.1 81 a4.toNatClampNeg) 32 = true then gbv (fX11_isHeld S (S.1 81 a4.toNatClampNeg) a2 (S.1 69 ((S.1 81 a4.toNatClampNeg)).toNatClampNeg)) fun r5 => (if r5 = 0 then glet (a4 + (1 : Int32)) fun v8 => (fX11_parts_3 n S a1 a2 a3 v8) else glet (0 : Int32) fun v7 => (fX11_parts_45 (fX11_parts_3 n) FU S a1 a2 a3 a4 v7)) else none) else none))
set_option maxRecDepth 100000 in
set_option maxHeartbeats 4000000 in
theorem wX11_parts_3 {p : Program} {l : Launch} {e : Env} {s : State} {m : MethodId} {args : Array Value} {below : List Frame} {meth : Method} {c : Code} {E : GE} {res : Int32} (hc : GM E p s m args meth c RX11 cX11_parts 6 (some .boolean)) : ∀ (n : Nat), ∀ (S : GS) (a1 : Int32) (a2 : Int32) (a3 : Int32) (a4 : Int32) (H : Heap) (locs : List Loc) (ls : Array Slot), lv_has ls 6 [(0, gR E 54), (1, .int a1), (2, .int a2), (3, .int a3), (4, .int a4)] → GX E S H locs → fX11_parts_3 n S a1 a2 a3 a4 = some res → W p l e rmX11_parts s m args below meth c H locs 0 0 (gZ E below args s (some (.int res)) S) (F0 m 3 ls []) := by
  obtain ⟨hx, hb, -, -, -, hown, hts, -, -⟩ := id hc
  intro n
  induction n with
  | zero => intro S a1 a2 a3 a4 H locs ls hl hG h; cases h
  | succ n ih =>
    intro S a1 a2 a3 a4 H locs ls hl hG h
    rw [fX11_parts_3] at h
    refine lv_iload hx hb dX11_parts_3 (lv_at hl 4 rfl) ?_
    refine lv_aload_n hx hb dX11_parts_5 rfl (lv_at hl 0 rfl) ?_
    refine g_getI hc hG 54 flX11_363 rfl rfl dX11_parts_6 ?_
    refine lv_icmp_ge (tgt := 125) hx hb dX11_parts_9 (by decide) (fun c1 => ?_) (fun c1 => ?_)
    · have h := g_pos c1 h
      refine lv_iconst (v := (1 : Int32)) hx hb dX11_parts_125 (by decide) ?_
      exact g_zretp hc hG (Or.inr rfl) dX11_parts_126 h
    · have h := g_neg c1 h
      refine lv_aload_n hx hb dX11_parts_12 rfl (lv_at hl 0 rfl) ?_
      refine lv_aload_n hx hb dX11_parts_13 rfl (lv_at hl 0 rfl) ?_
      refine g_getR hc hG 54 81 flX11_97 rfl rfl rfl dX11_parts_14 ?_
      refine lv_iload hx hb dX11_parts_17 (lv_at hl 4 rfl) ?_
      obtain ⟨hi2, h⟩ := g_if h
      refine g_iald hc hG 81 32 (a4.toNatClampNeg) rfl rfl hi2 rfl dX11_parts_19 ?_
      refine lv_iload_n hx hb dX11_parts_20 rfl (lv_at hl 2 rfl) ?_
      refine lv_aload_n hx hb dX11_parts_21 rfl (lv_at hl 0 rfl) ?_
      refine g_getR hc hG 54 69 flX11_61 rfl rfl rfl dX11_parts_22 ?_
      refine lv_aload_n hx hb dX11_parts_25 rfl (lv_at hl 0 rfl) ?_
      refine g_getR hc hG 54 81 flX11_97 rfl rfl rfl dX11_parts_26 ?_
      refine lv_iload hx hb dX11_parts_29 (lv_at hl 4 rfl) ?_
      refine g_iald hc hG 81 32 (a4.toNatClampNeg) rfl rfl hi2 rfl dX11_parts_31 ?_
      obtain ⟨hi3, h⟩ := g_if h
      refine g_iald hc hG 69 32 (((S.1 81 a4.toNatClampNeg)).toNatClampNeg) rfl rfl hi3 rfl dX11_parts_32 ?_
      obtain ⟨r5, hm4, h⟩ := g_bv h
      refine g_callVi (As := [.int (S.1 81 a4.toNatClampNeg), .int a2, .int (S.1 69 ((S.1 81 a4.toNatClampNeg)).toNatClampNeg)]) hc hG (mX11_isHeld l E hm4) mlX11_332 mcX11_isHeld miX11_isHeld rfl rfl rfl rfl hl.1 rfl rfl ⟨by decide, by decide⟩ (Nat.le_of_ble_eq_true rfl) ⟨by decide, by decide⟩ dX11_parts_33 rfl (fun H locs hG => ?_)
      refine lv_if_ne (tgt := 42) hx hb dX11_parts_36 (by decide) (fun c6 => ?_) (fun c6 => ?_)
      · have h := g_neg c6 h
        refine lv_iconst (v := (0 : Int32)) hx hb dX11_parts_42 (by decide) ?_
        refine lv_topi (fun v7 ev7 => ?_)
        have h := g_let ev7 h
        refine lv_istore (lv' := [(5, .int v7), (0, gR E 54), (1, .int a1), (2, .int a2), (3, .int a3), (4, .int a4)]) hx hb dX11_parts_43 hl (by decide) rfl (fun ls hl => ?_)
        exact wX11_parts_45 hc ih FU S a1 a2 a3 a4 v7 _ _ _ (lv_sub hl [1, 2, 3, 4, 5, 0] rfl) hG h
      · have h := g_pos c6 h
        refine lv_goto (tgt := 119) hx hb dX11_parts_39 (by decide) ?_
        obtain ⟨v8, ev8⟩ : ∃ y : Int32, y = (a4 + (1 : Int32)) := ⟨_, rfl⟩
        have h := g_let ev8 h
        refine lv_iinc (v := v8) (lv' := [(4, .int v8), (0, gR E 54), (1, .int a1), (2, .int a2), (3, .int a3)]) hx hb dX11_parts_119 hl (k := 4) rfl (by rw [ev8]; rfl) (by decide) rfl (fun ls hl => ?_)
        refine lv_goto (tgt := 3) hx hb dX11_parts_122 (by decide) ?_
        exact ih S a1 a2 a3 v8 _ _ _ (lv_sub hl [1, 2, 3, 4, 0] rfl) hG h
def fX11_parts (S : GS) (a1 : Int32) (a2 : Int32) (a3 : Int32) : Option Int32 := glet (0 : Int32) fun v1 => (fX11_parts_3 FU S a1 a2 a3 v1)
set_option maxRecDepth 100000 in
set_option maxHeartbeats 4000000 in
theorem wX11_parts_0 {p : Program} {l : Launch} {e : Env} {s : State} {m : MethodId} {args : Array Value} {below : List Frame} {meth : Method} {c : Code} {E : GE} {res : Int32} (hc : GM E p s m args meth c RX11 cX11_parts 6 (some .boolean)) : ∀ (S : GS) (a1 : Int32) (a2 : Int32) (a3 : Int32) (H : Heap) (locs : List Loc) (ls : Array Slot), lv_has ls 6 [(0, gR E 54), (1, .int a1), (2, .int a2), (3, .int a3)] → GX E S H locs → fX11_parts S a1 a2 a3 = some res → W p l e rmX11_parts s m args below meth c H locs 0 0 (gZ E below args s (some (.int res)) S) (F0 m 0 ls []) := by
  obtain ⟨hx, hb, -, -, -, hown, hts, -, -⟩ := id hc
  intro S a1 a2 a3 H locs ls hl hG h
  unfold fX11_parts at h
  refine lv_iconst (v := (0 : Int32)) hx hb dX11_parts_0 (by decide) ?_
  refine lv_topi (fun v1 ev1 => ?_)
  have h := g_let ev1 h
  refine lv_istore (lv' := [(4, .int v1), (0, gR E 54), (1, .int a1), (2, .int a2), (3, .int a3)]) hx hb dX11_parts_1 hl (by decide) rfl (fun ls hl => ?_)
  exact wX11_parts_3 hc FU S a1 a2 a3 v1 _ _ _ (lv_sub hl [1, 2, 3, 4, 0] rfl) hG h
theorem mX11_parts (l : Launch) (E : GE) {S : GS} {a1 : Int32} {a2 : Int32} {a3 : Int32} {res : Int32} (h : fX11_parts S a1 a2 a3 = some res) : gMet l E yX11_parts cX11_parts 6 (some .boolean) rmX11_parts [gR E 54, .int a1, .int a2, .int a3] S (some (.int res)) S :=
  g_met (by decide) (Nat.le_of_ble_eq_true rfl) rfl fun p e s m below meth c H ls hc hG hl => wX11_parts_0 hc S a1 a2 a3 H [] ls hl hG h
abbrev rmX11_apart : Room := { frames := 8, cells := 0, slots := 0, locals := 195 }
def fX11_apart_83 (k56 : GS → Int32 → Int32 → Int32 → Int32 → Option (Int32 × GS)) (S : GS) (a1 : Int32) (a2 : Int32) (a5 : Int32) (a6 : Int32) : Option (Int32 × GS) := (if gib a1 12 = true then (if gib a2 12 = true then gbv (fX11_parts S a6 (S.1 79 a1.toNatClampNeg) (S.1 79 a2.toNatClampNeg)) fun r4 => (if r4 = 0 then glet (a6 + (1 : Int32)) fun v6 => (k56 S a1 a2 a5 v6) else glet (a6 + (1 : Int32)) fun v7 => (k56 S a1 a2 a6 v7)) else none) else none)
set_option maxRecDepth 100000 in
set_option maxHeartbeats 4000000 in
theorem wX11_apart_83 {p : Program} {l : Launch} {e : Env} {s : State} {m : MethodId} {args : Array Value} {below : List Frame} {meth : Method} {c : Code} {E : GE} {res : (Int32 × GS)} {k56 : GS → Int32 → Int32 → Int32 → Int32 → Option (Int32 × GS)} (hc : GM E p s m args meth c RX11 cX11_apart 7 (some .int)) (hk56 : ∀ (S : GS) (a1 : Int32) (a2 : Int32) (a5 : Int32) (a6 : Int32) (H : Heap) (locs : List Loc) (ls : Array Slot), lv_has ls 7 [(0, gR E 54), (1, .int a1), (2, .int a2), (5, .int a5), (6, .int a6)] → GX E S H locs → k56 S a1 a2 a5 a6 = some res → W p l e rmX11_apart s m args below meth c H locs 0 0 (gZ E below args s (some (.int res.1)) res.2) (F0 m 56 ls [])) : ∀ (S : GS) (a1 : Int32) (a2 : Int32) (a5 : Int32) (a6 : Int32) (H : Heap) (locs : List Loc) (ls : Array Slot), lv_has ls 7 [(0, gR E 54), (1, .int a1), (2, .int a2), (5, .int a5), (6, .int a6)] → GX E S H locs → fX11_apart_83 k56 S a1 a2 a5 a6 = some res → W p l e rmX11_apart s m args below meth c H locs 0 0 (gZ E below args s (some (.int res.1)) res.2) (F0 m 83 ls []) := by
  obtain ⟨hx, hb, -, -, -, hown, hts, -, -⟩ := id hc
  intro S a1 a2 a5 a6 H locs ls hl hG h
  unfold fX11_apart_83 at h
  refine lv_aload_n hx hb dX11_apart_83 rfl (lv_at hl 0 rfl) ?_
  refine lv_iload hx hb dX11_apart_84 (lv_at hl 4 rfl) ?_
  refine lv_aload_n hx hb dX11_apart_86 rfl (lv_at hl 0 rfl) ?_
  refine g_getR hc hG 54 79 flX11_91 rfl rfl rfl dX11_apart_87 ?_
  refine lv_iload_n hx hb dX11_apart_90 rfl (lv_at hl 1 rfl) ?_
  obtain ⟨hi1, h⟩ := g_if h
  refine g_iald hc hG 79 12 (a1.toNatClampNeg) rfl rfl hi1 rfl dX11_apart_91 ?_
  refine lv_aload_n hx hb dX11_apart_92 rfl (lv_at hl 0 rfl) ?_
  refine g_getR hc hG 54 79 flX11_91 rfl rfl rfl dX11_apart_93 ?_
  refine lv_iload_n hx hb dX11_apart_96 rfl (lv_at hl 2 rfl) ?_
  obtain ⟨hi2, h⟩ := g_if h
  refine g_iald hc hG 79 12 (a2.toNatClampNeg) rfl rfl hi2 rfl dX11_apart_97 ?_
  obtain ⟨r4, hm3, h⟩ := g_bv h
  refine g_callVi (As := [.int a6, .int (S.1 79 a1.toNatClampNeg), .int (S.1 79 a2.toNatClampNeg)]) hc hG (mX11_parts l E hm3) mlX11_393 mcX11_parts miX11_parts rfl rfl rfl rfl hl.1 rfl rfl ⟨by decide, by decide⟩ (Nat.le_of_ble_eq_true rfl) ⟨by decide, by decide⟩ dX11_apart_98 rfl (fun H locs hG => ?_)
  refine lv_if_eq (tgt := 108) hx hb dX11_apart_101 (by decide) (fun c5 => ?_) (fun c5 => ?_)
  · have h := g_pos c5 h
    obtain ⟨v6, ev6⟩ : ∃ y : Int32, y = (a6 + (1 : Int32)) := ⟨_, rfl⟩
    have h := g_let ev6 h
    refine lv_iinc (v := v6) (lv' := [(6, .int v6), (0, gR E 54), (1, .int a1), (2, .int a2), (5, .int a5)]) hx hb dX11_apart_108 hl (k := 4) rfl (by rw [ev6]; rfl) (by decide) rfl (fun ls hl => ?_)
    refine lv_goto (tgt := 56) hx hb dX11_apart_111 (by decide) ?_
    exact hk56 S a1 a2 a5 v6 _ _ _ (lv_sub hl [1, 2, 3, 4, 0] rfl) hG h
  · have h := g_neg c5 h
    refine lv_iload hx hb dX11_apart_104 (lv_at hl 4 rfl) ?_
    refine lv_istore (lv' := [(5, .int a6), (0, gR E 54), (1, .int a1), (2, .int a2), (6, .int a6)]) hx hb dX11_apart_106 hl (by decide) rfl (fun ls hl => ?_)
    obtain ⟨v7, ev7⟩ : ∃ y : Int32, y = (a6 + (1 : Int32)) := ⟨_, rfl⟩
    have h := g_let ev7 h
    refine lv_iinc (v := v7) (lv' := [(6, .int v7), (5, .int a6), (0, gR E 54), (1, .int a1), (2, .int a2)]) hx hb dX11_apart_108 hl (k := 4) rfl (by rw [ev7]; rfl) (by decide) rfl (fun ls hl => ?_)
    refine lv_goto (tgt := 56) hx hb dX11_apart_111 (by decide) ?_
    exact hk56 S a1 a2 a6 v7 _ _ _ (lv_sub hl [2, 3, 4, 1, 0] rfl) hG h
def fX11_apart_56 : Nat → GS → Int32 → Int32 → Int32 → Int32 → Option (Int32 × GS)
  | 0, _, _, _, _, _ => none
  | n + 1, S, a1, a2, a5, a6 => (if (1024 : Int32) ≤ a6 then (some (a5, S)) else (if a5 = (-1 : Int32) then (fX11_apart_83 (fX11_apart_56 n) S a1 a2 a5 a6) else gbv (fX11_bits S a6) fun r4 => gbv (fX11_bits S a5) fun r6 => (if r6 ≤ r4 then glet (a6 + (1 : Int32)) fun v8 => (fX11_apart_56 n S a1 a2 a5 v8) else (fX11_apart_83 (fX11_apart_56 n) S a1 a2 a5 a6))))
set_option maxRecDepth 100000 in
set_option maxHeartbeats 4000000 in
theorem wX11_apart_56 {p : Program} {l : Launch} {e : Env} {s : State} {m : MethodId} {args : Array Value} {below : List Frame} {meth : Method} {c : Code} {E : GE} {res : (Int32 × GS)} (hc : GM E p s m args meth c RX11 cX11_apart 7 (some .int)) : ∀ (n : Nat), ∀ (S : GS) (a1 : Int32) (a2 : Int32) (a5 : Int32) (a6 : Int32) (H : Heap) (locs : List Loc) (ls : Array Slot), lv_has ls 7 [(0, gR E 54), (1, .int a1), (2, .int a2), (5, .int a5), (6, .int a6)] → GX E S H locs → fX11_apart_56 n S a1 a2 a5 a6 = some res → W p l e rmX11_apart s m args below meth c H locs 0 0 (gZ E below args s (some (.int res.1)) res.2) (F0 m 56 ls []) := by
  obtain ⟨hx, hb, -, -, -, hown, hts, -, -⟩ := id hc
  intro n
  induction n with
  | zero => intro S a1 a2 a5 a6 H locs ls hl hG h; cases h
  | succ n ih =>
    intro S a1 a2 a5 a6 H locs ls hl hG h
    rw [fX11_apart_56] at h
    refine lv_iload hx hb dX11_apart_56 (lv_at hl 4 rfl) ?_
    refine lv_sipush (v := (1024 : Int32)) hx hb dX11_apart_58 (by decide) ?_
    refine lv_icmp_ge (tgt := 114) hx hb dX11_apart_61 (by decide) (fun c1 => ?_) (fun c1 => ?_)
    · have h := g_pos c1 h
      refine lv_iload hx hb dX11_apart_114 (lv_at hl 3 rfl) ?_
      exact g_iret hc hG dX11_apart_116 h
    · have h := g_neg c1 h
      refine lv_iload hx hb dX11_apart_64 (lv_at hl 3 rfl) ?_
      refine lv_iconst (v := (-1 : Int32)) hx hb dX11_apart_66 (by decide) ?_
      refine lv_icmp_eq (tgt := 83) hx hb dX11_apart_67 (by decide) (fun c2 => ?_) (fun c2 => ?_)
      · have h := g_pos c2 h
        exact wX11_apart_83 hc ih S a1 a2 a5 a6 _ _ _ (lv_sub hl [0, 1, 2, 3, 4] rfl) hG h
      · have h := g_neg c2 h
        refine lv_iload hx hb dX11_apart_70 (lv_at hl 4 rfl) ?_
        obtain ⟨r4, hm3, h⟩ := g_bv h
        refine g_callSi (As := [.int a6]) hc hG (mX11_bits l E hm3) mlX11_315 mcX11_bits msX11_bits rfl hl.1 rfl rfl ⟨by decide, by decide⟩ (Nat.le_of_ble_eq_true rfl) ⟨by decide, by decide⟩ dX11_apart_72 rfl (fun H locs hG => ?_)
        refine lv_iload hx hb dX11_apart_75 (lv_at hl 3 rfl) ?_
        obtain ⟨r6, hm5, h⟩ := g_bv h
        refine g_callSi (As := [.int a5]) hc hG (mX11_bits l E hm5) mlX11_315 mcX11_bits msX11_bits rfl hl.1 rfl rfl ⟨by decide, by decide⟩ (Nat.le_of_ble_eq_true rfl) ⟨by decide, by decide⟩ dX11_apart_77 rfl (fun H locs hG => ?_)
        refine lv_icmp_ge (tgt := 108) hx hb dX11_apart_80 (by decide) (fun c7 => ?_) (fun c7 => ?_)
        · have h := g_pos c7 h
          obtain ⟨v8, ev8⟩ : ∃ y : Int32, y = (a6 + (1 : Int32)) := ⟨_, rfl⟩
          have h := g_let ev8 h
          refine lv_iinc (v := v8) (lv' := [(6, .int v8), (0, gR E 54), (1, .int a1), (2, .int a2), (5, .int a5)]) hx hb dX11_apart_108 hl (k := 4) rfl (by rw [ev8]; rfl) (by decide) rfl (fun ls hl => ?_)
          refine lv_goto (tgt := 56) hx hb dX11_apart_111 (by decide) ?_
          exact ih S a1 a2 a5 v8 _ _ _ (lv_sub hl [1, 2, 3, 4, 0] rfl) hG h
        · have h := g_neg c7 h
          exact wX11_apart_83 hc ih S a1 a2 a5 a6 _ _ _ (lv_sub hl [0, 1, 2, 3, 4] rfl) hG h
def fX11_apart (S : GS) (a1 : Int32) (a2 : Int32) (a3 : Int32) (a4 : Int32) : Option (Int32 × GS) := glet (gsi S 54 0 (0 : Int32)) fun S1 => gbv (fX11_isPoint S1 a1) fun r3 => (if r3 = 0 then (some ((-1 : Int32), S1)) else gbv (fX11_isPoint S1 a2) fun r6 => (if r6 = 0 then (some ((-1 : Int32), S1)) else gbv (fX11_isDay S1 a3) fun r9 => (if r9 = 0 then (some ((-1 : Int32), S1)) else gbv (fX11_isDay S1 a4) fun r12 => (if r12 = 0 then (some ((-1 : Int32), S1)) else gbd (fX11_knows S1 a4 (-1 : Int32)) fun r15 S16 => gbd (fX11_asOf S16 a3) fun r18 S19 => glet (-1 : Int32) fun v20 => glet (0 : Int32) fun v21 => (fX11_apart_56 FU S19 a1 a2 v20 v21)))))
set_option maxRecDepth 100000 in
set_option maxHeartbeats 4000000 in
theorem wX11_apart_0 {p : Program} {l : Launch} {e : Env} {s : State} {m : MethodId} {args : Array Value} {below : List Frame} {meth : Method} {c : Code} {E : GE} {res : (Int32 × GS)} (hc : GM E p s m args meth c RX11 cX11_apart 7 (some .int)) : ∀ (S : GS) (a1 : Int32) (a2 : Int32) (a3 : Int32) (a4 : Int32) (H : Heap) (locs : List Loc) (ls : Array Slot), lv_has ls 7 [(0, gR E 54), (1, .int a1), (2, .int a2), (3, .int a3), (4, .int a4)] → GX E S H locs → fX11_apart S a1 a2 a3 a4 = some res → W p l e rmX11_apart s m args below meth c H locs 0 0 (gZ E below args s (some (.int res.1)) res.2) (F0 m 0 ls []) := by
  obtain ⟨hx, hb, -, -, -, hown, hts, -, -⟩ := id hc
  intro S a1 a2 a3 a4 H locs ls hl hG h
  unfold fX11_apart at h
  refine lv_aload_n hx hb dX11_apart_0 rfl (lv_at hl 0 rfl) ?_
  refine lv_iconst (v := (0 : Int32)) hx hb dX11_apart_1 (by decide) ?_
  refine g_putI hc hG 54 fpX11_115 rfl rfl rfl rfl dX11_apart_2 (fun S1 H locs eS1 hG => ?_)
  have h := g_let eS1 h
  refine lv_aload_n hx hb dX11_apart_5 rfl (lv_at hl 0 rfl) ?_
  refine lv_iload_n hx hb dX11_apart_6 rfl (lv_at hl 1 rfl) ?_
  obtain ⟨r3, hm2, h⟩ := g_bv h
  refine g_callVi (As := [.int a1]) hc hG (mX11_isPoint l E hm2) mlX11_273 mcX11_isPoint miX11_isPoint rfl rfl rfl rfl hl.1 rfl rfl ⟨by decide, by decide⟩ (Nat.le_of_ble_eq_true rfl) ⟨by decide, by decide⟩ dX11_apart_7 rfl (fun H locs hG => ?_)
  refine lv_if_eq (tgt := 36) hx hb dX11_apart_10 (by decide) (fun c4 => ?_) (fun c4 => ?_)
  · have h := g_pos c4 h
    refine lv_iconst (v := (-1 : Int32)) hx hb dX11_apart_36 (by decide) ?_
    exact g_iret hc hG dX11_apart_37 h
  · have h := g_neg c4 h
    refine lv_aload_n hx hb dX11_apart_13 rfl (lv_at hl 0 rfl) ?_
    refine lv_iload_n hx hb dX11_apart_14 rfl (lv_at hl 2 rfl) ?_
    obtain ⟨r6, hm5, h⟩ := g_bv h
    refine g_callVi (As := [.int a2]) hc hG (mX11_isPoint l E hm5) mlX11_273 mcX11_isPoint miX11_isPoint rfl rfl rfl rfl hl.1 rfl rfl ⟨by decide, by decide⟩ (Nat.le_of_ble_eq_true rfl) ⟨by decide, by decide⟩ dX11_apart_15 rfl (fun H locs hG => ?_)
    refine lv_if_eq (tgt := 36) hx hb dX11_apart_18 (by decide) (fun c7 => ?_) (fun c7 => ?_)
    · have h := g_pos c7 h
      refine lv_iconst (v := (-1 : Int32)) hx hb dX11_apart_36 (by decide) ?_
      exact g_iret hc hG dX11_apart_37 h
    · have h := g_neg c7 h
      refine lv_iload_n hx hb dX11_apart_21 rfl (lv_at hl 3 rfl) ?_
      obtain ⟨r9, hm8, h⟩ := g_bv h
      refine g_callSi (As := [.int a3]) hc hG (mX11_isDay l E hm8) mlX11_296 mcX11_isDay msX11_isDay rfl hl.1 rfl rfl ⟨by decide, by decide⟩ (Nat.le_of_ble_eq_true rfl) ⟨by decide, by decide⟩ dX11_apart_22 rfl (fun H locs hG => ?_)
      refine lv_if_eq (tgt := 36) hx hb dX11_apart_25 (by decide) (fun c10 => ?_) (fun c10 => ?_)
      · have h := g_pos c10 h
        refine lv_iconst (v := (-1 : Int32)) hx hb dX11_apart_36 (by decide) ?_
        exact g_iret hc hG dX11_apart_37 h
      · have h := g_neg c10 h
        refine lv_iload hx hb dX11_apart_28 (lv_at hl 4 rfl) ?_
        obtain ⟨r12, hm11, h⟩ := g_bv h
        refine g_callSi (As := [.int a4]) hc hG (mX11_isDay l E hm11) mlX11_296 mcX11_isDay msX11_isDay rfl hl.1 rfl rfl ⟨by decide, by decide⟩ (Nat.le_of_ble_eq_true rfl) ⟨by decide, by decide⟩ dX11_apart_30 rfl (fun H locs hG => ?_)
        refine lv_if_ne (tgt := 38) hx hb dX11_apart_33 (by decide) (fun c13 => ?_) (fun c13 => ?_)
        · have h := g_neg c13 h
          refine lv_aload_n hx hb dX11_apart_38 rfl (lv_at hl 0 rfl) ?_
          refine lv_iload hx hb dX11_apart_39 (lv_at hl 4 rfl) ?_
          refine lv_iconst (v := (-1 : Int32)) hx hb dX11_apart_41 (by decide) ?_
          obtain ⟨r15, S16, hm14, h⟩ := g_bd h
          refine g_callVv (As := [.int a4, .int (-1 : Int32)]) hc hG (mX11_knows l E hm14) mlX11_379 mcX11_knows miX11_knows rfl rfl rfl rfl hl.1 rfl rfl ⟨by decide, by decide⟩ (Nat.le_of_ble_eq_true rfl) ⟨by decide, by decide⟩ dX11_apart_42 rfl (fun H locs hG => ?_)
          refine lv_aload_n hx hb dX11_apart_45 rfl (lv_at hl 0 rfl) ?_
          refine lv_iload_n hx hb dX11_apart_46 rfl (lv_at hl 3 rfl) ?_
          obtain ⟨r18, S19, hm17, h⟩ := g_bd h
          refine g_callVv (As := [.int a3]) hc hG (mX11_asOf l E hm17) mlX11_382 mcX11_asOf miX11_asOf rfl rfl rfl rfl hl.1 rfl rfl ⟨by decide, by decide⟩ (Nat.le_of_ble_eq_true rfl) ⟨by decide, by decide⟩ dX11_apart_47 rfl (fun H locs hG => ?_)
          refine lv_iconst (v := (-1 : Int32)) hx hb dX11_apart_50 (by decide) ?_
          refine lv_topi (fun v20 ev20 => ?_)
          have h := g_let ev20 h
          refine lv_istore (lv' := [(5, .int v20), (0, gR E 54), (1, .int a1), (2, .int a2), (3, .int a3), (4, .int a4)]) hx hb dX11_apart_51 hl (by decide) rfl (fun ls hl => ?_)
          refine lv_iconst (v := (0 : Int32)) hx hb dX11_apart_53 (by decide) ?_
          refine lv_topi (fun v21 ev21 => ?_)
          have h := g_let ev21 h
          refine lv_istore (lv' := [(6, .int v21), (5, .int v20), (0, gR E 54), (1, .int a1), (2, .int a2), (3, .int a3), (4, .int a4)]) hx hb dX11_apart_54 hl (by decide) rfl (fun ls hl => ?_)
          exact wX11_apart_56 hc FU S19 a1 a2 v20 v21 _ _ _ (lv_sub hl [2, 3, 4, 1, 0] rfl) hG h
        · have h := g_pos c13 h
          refine lv_iconst (v := (-1 : Int32)) hx hb dX11_apart_36 (by decide) ?_
          exact g_iret hc hG dX11_apart_37 h
theorem mX11_apart (l : Launch) (E : GE) {S : GS} {a1 : Int32} {a2 : Int32} {a3 : Int32} {a4 : Int32} {res : (Int32 × GS)} (h : fX11_apart S a1 a2 a3 a4 = some res) : gMet l E yX11_apart cX11_apart 7 (some .int) rmX11_apart [gR E 54, .int a1, .int a2, .int a3, .int a4] S (some (.int res.1)) res.2 :=
  g_met (by decide) (Nat.le_of_ble_eq_true rfl) rfl fun p e s m below meth c H ls hc hG hl => wX11_apart_0 hc S a1 a2 a3 a4 H [] ls hl hG h
abbrev rmX11_hangs : Room := { frames := 8, cells := 0, slots := 0, locals := 195 }
def fX11_hangs_109 : Nat → GS → Int32 → Int32 → Int32 → Int32 → Option (Int32 × GS)
  | 0, _, _, _, _, _ => none
  | n + 1, S, a2, a3, a6, a7 => (if (S.1 54 33) ≤ a7 then (some (a6, S)) else (if gib a7 12 = true then (if (S.1 86 a7.toNatClampNeg) = (-1 : Int32) then glet (a7 + (1 : Int32)) fun v4 => (fX11_hangs_109 n S a2 a3 a6 v4) else gbd (fX11_standOf S a7 a2 a3) fun r6 S7 => (if r6 = (S7.1 86 a7.toNatClampNeg) then glet (a7 + (1 : Int32)) fun v9 => (fX11_hangs_109 n S7 a2 a3 a6 v9) else glet (a6 ||| ((1 : Int32) <<< (a7 &&& 31))) fun v10 => glet (a7 + (1 : Int32)) fun v11 => (fX11_hangs_109 n S7 a2 a3 v10 v11))) else none))
set_option maxRecDepth 100000 in
set_option maxHeartbeats 4000000 in
theorem wX11_hangs_109 {p : Program} {l : Launch} {e : Env} {s : State} {m : MethodId} {args : Array Value} {below : List Frame} {meth : Method} {c : Code} {E : GE} {res : (Int32 × GS)} (hc : GM E p s m args meth c RX11 cX11_hangs 8 (some .int)) : ∀ (n : Nat), ∀ (S : GS) (a2 : Int32) (a3 : Int32) (a6 : Int32) (a7 : Int32) (H : Heap) (locs : List Loc) (ls : Array Slot), lv_has ls 8 [(0, gR E 54), (2, .int a2), (3, .int a3), (6, .int a6), (7, .int a7)] → GX E S H locs → fX11_hangs_109 n S a2 a3 a6 a7 = some res → W p l e rmX11_hangs s m args below meth c H locs 0 0 (gZ E below args s (some (.int res.1)) res.2) (F0 m 109 ls []) := by
  obtain ⟨hx, hb, -, -, -, hown, hts, -, -⟩ := id hc
  intro n
  induction n with
  | zero => intro S a2 a3 a6 a7 H locs ls hl hG h; cases h
  | succ n ih =>
    intro S a2 a3 a6 a7 H locs ls hl hG h
    rw [fX11_hangs_109] at h
    refine lv_iload hx hb dX11_hangs_109 (lv_at hl 4 rfl) ?_
    refine lv_aload_n hx hb dX11_hangs_111 rfl (lv_at hl 0 rfl) ?_
    refine g_getI hc hG 54 flX11_267 rfl rfl dX11_hangs_112 ?_
    refine lv_icmp_ge (tgt := 162) hx hb dX11_hangs_115 (by decide) (fun c1 => ?_) (fun c1 => ?_)
    · have h := g_pos c1 h
      refine lv_iload hx hb dX11_hangs_162 (lv_at hl 3 rfl) ?_
      exact g_iret hc hG dX11_hangs_164 h
    · have h := g_neg c1 h
      refine lv_aload_n hx hb dX11_hangs_118 rfl (lv_at hl 0 rfl) ?_
      refine g_getR hc hG 54 86 flX11_112 rfl rfl rfl dX11_hangs_119 ?_
      refine lv_iload hx hb dX11_hangs_122 (lv_at hl 4 rfl) ?_
      obtain ⟨hi2, h⟩ := g_if h
      refine g_iald hc hG 86 12 (a7.toNatClampNeg) rfl rfl hi2 rfl dX11_hangs_124 ?_
      refine lv_iconst (v := (-1 : Int32)) hx hb dX11_hangs_125 (by decide) ?_
      refine lv_icmp_eq (tgt := 156) hx hb dX11_hangs_126 (by decide) (fun c3 => ?_) (fun c3 => ?_)
      · have h := g_pos c3 h
        obtain ⟨v4, ev4⟩ : ∃ y : Int32, y = (a7 + (1 : Int32)) := ⟨_, rfl⟩
        have h := g_let ev4 h
        refine lv_iinc (v := v4) (lv' := [(7, .int v4), (0, gR E 54), (2, .int a2), (3, .int a3), (6, .int a6)]) hx hb dX11_hangs_156 hl (k := 4) rfl (by rw [ev4]; rfl) (by decide) rfl (fun ls hl => ?_)
        refine lv_goto (tgt := 109) hx hb dX11_hangs_159 (by decide) ?_
        exact ih S a2 a3 a6 v4 _ _ _ (lv_sub hl [1, 2, 3, 4, 0] rfl) hG h
      · have h := g_neg c3 h
        refine lv_aload_n hx hb dX11_hangs_129 rfl (lv_at hl 0 rfl) ?_
        refine lv_iload hx hb dX11_hangs_130 (lv_at hl 4 rfl) ?_
        refine lv_iload_n hx hb dX11_hangs_132 rfl (lv_at hl 1 rfl) ?_
        refine lv_iload_n hx hb dX11_hangs_133 rfl (lv_at hl 2 rfl) ?_
        obtain ⟨r6, S7, hm5, h⟩ := g_bd h
        refine g_callVi (As := [.int a7, .int a2, .int a3]) hc hG (mX11_standOf l E hm5) mlX11_384 mcX11_standOf miX11_standOf rfl rfl rfl rfl hl.1 rfl rfl ⟨by decide, by decide⟩ (Nat.le_of_ble_eq_true rfl) ⟨by decide, by decide⟩ dX11_hangs_134 rfl (fun H locs hG => ?_)
        refine lv_aload_n hx hb dX11_hangs_137 rfl (lv_at hl 0 rfl) ?_
        refine g_getR hc hG 54 86 flX11_112 rfl rfl rfl dX11_hangs_138 ?_
        refine lv_iload hx hb dX11_hangs_141 (lv_at hl 4 rfl) ?_
        refine g_iald hc hG 86 12 (a7.toNatClampNeg) rfl rfl hi2 rfl dX11_hangs_143 ?_
        refine lv_icmp_eq (tgt := 156) hx hb dX11_hangs_144 (by decide) (fun c8 => ?_) (fun c8 => ?_)
        · have h := g_pos c8 h
          obtain ⟨v9, ev9⟩ : ∃ y : Int32, y = (a7 + (1 : Int32)) := ⟨_, rfl⟩
          have h := g_let ev9 h
          refine lv_iinc (v := v9) (lv' := [(7, .int v9), (0, gR E 54), (2, .int a2), (3, .int a3), (6, .int a6)]) hx hb dX11_hangs_156 hl (k := 4) rfl (by rw [ev9]; rfl) (by decide) rfl (fun ls hl => ?_)
          refine lv_goto (tgt := 109) hx hb dX11_hangs_159 (by decide) ?_
          exact ih S7 a2 a3 a6 v9 _ _ _ (lv_sub hl [1, 2, 3, 4, 0] rfl) hG h
        · have h := g_neg c8 h
          refine lv_iload hx hb dX11_hangs_147 (lv_at hl 3 rfl) ?_
          refine lv_iconst (v := (1 : Int32)) hx hb dX11_hangs_149 (by decide) ?_
          refine lv_iload hx hb dX11_hangs_150 (lv_at hl 4 rfl) ?_
          refine lv_ishl hx hb dX11_hangs_152 ?_
          refine lv_ior hx hb dX11_hangs_153 ?_
          refine lv_topi (fun v10 ev10 => ?_)
          have h := g_let ev10 h
          refine lv_istore (lv' := [(6, .int v10), (0, gR E 54), (2, .int a2), (3, .int a3), (7, .int a7)]) hx hb dX11_hangs_154 hl (by decide) rfl (fun ls hl => ?_)
          obtain ⟨v11, ev11⟩ : ∃ y : Int32, y = (a7 + (1 : Int32)) := ⟨_, rfl⟩
          have h := g_let ev11 h
          refine lv_iinc (v := v11) (lv' := [(7, .int v11), (6, .int v10), (0, gR E 54), (2, .int a2), (3, .int a3)]) hx hb dX11_hangs_156 hl (k := 4) rfl (by rw [ev11]; rfl) (by decide) rfl (fun ls hl => ?_)
          refine lv_goto (tgt := 109) hx hb dX11_hangs_159 (by decide) ?_
          exact ih S7 a2 a3 v10 v11 _ _ _ (lv_sub hl [2, 3, 4, 1, 0] rfl) hG h
def fX11_hangs_44 : Nat → GS → Int32 → Int32 → Int32 → Int32 → Int32 → Int32 → Option (Int32 × GS)
  | 0, _, _, _, _, _, _, _ => none
  | n + 1, S, a1, a2, a3, a4, a5, a6 => (if (S.1 54 33) ≤ a6 then gbd (fX11_knows S a5 a1) fun r3 S4 => gbd (fX11_asOf S4 a4) fun r6 S7 => glet (0 : Int32) fun v8 => glet (0 : Int32) fun v9 => (fX11_hangs_109 FU S7 a2 a3 v8 v9) else (if gib a6 12 = true then (if (S.1 79 a6.toNatClampNeg) = a6 then gbd (fX11_standOf S a6 a2 a3) fun r15 S16 => glet (gsi S16 86 (a6.toNatClampNeg) r15) fun S17 => glet (a6 + (1 : Int32)) fun v18 => (fX11_hangs_44 n S17 a1 a2 a3 a4 a5 v18) else glet (gsi S 86 (a6.toNatClampNeg) (-1 : Int32)) fun S12 => glet (a6 + (1 : Int32)) fun v13 => (fX11_hangs_44 n S12 a1 a2 a3 a4 a5 v13)) else none))
set_option maxRecDepth 100000 in
set_option maxHeartbeats 4000000 in
theorem wX11_hangs_44 {p : Program} {l : Launch} {e : Env} {s : State} {m : MethodId} {args : Array Value} {below : List Frame} {meth : Method} {c : Code} {E : GE} {res : (Int32 × GS)} (hc : GM E p s m args meth c RX11 cX11_hangs 8 (some .int)) : ∀ (n : Nat), ∀ (S : GS) (a1 : Int32) (a2 : Int32) (a3 : Int32) (a4 : Int32) (a5 : Int32) (a6 : Int32) (H : Heap) (locs : List Loc) (ls : Array Slot), lv_has ls 8 [(0, gR E 54), (1, .int a1), (2, .int a2), (3, .int a3), (4, .int a4), (5, .int a5), (6, .int a6)] → GX E S H locs → fX11_hangs_44 n S a1 a2 a3 a4 a5 a6 = some res → W p l e rmX11_hangs s m args below meth c H locs 0 0 (gZ E below args s (some (.int res.1)) res.2) (F0 m 44 ls []) := by
  obtain ⟨hx, hb, -, -, -, hown, hts, -, -⟩ := id hc
  intro n
  induction n with
  | zero => intro S a1 a2 a3 a4 a5 a6 H locs ls hl hG h; cases h
  | succ n ih =>
    intro S a1 a2 a3 a4 a5 a6 H locs ls hl hG h
    rw [fX11_hangs_44] at h
    refine lv_iload hx hb dX11_hangs_44 (lv_at hl 6 rfl) ?_
    refine lv_aload_n hx hb dX11_hangs_46 rfl (lv_at hl 0 rfl) ?_
    refine g_getI hc hG 54 flX11_267 rfl rfl dX11_hangs_47 ?_
    refine lv_icmp_ge (tgt := 90) hx hb dX11_hangs_50 (by decide) (fun c1 => ?_) (fun c1 => ?_)
    · have h := g_pos c1 h
      refine lv_aload_n hx hb dX11_hangs_90 rfl (lv_at hl 0 rfl) ?_
      refine lv_iload hx hb dX11_hangs_91 (lv_at hl 5 rfl) ?_
      refine lv_iload_n hx hb dX11_hangs_93 rfl (lv_at hl 1 rfl) ?_
      obtain ⟨r3, S4, hm2, h⟩ := g_bd h
      refine g_callVv (As := [.int a5, .int a1]) hc hG (mX11_knows l E hm2) mlX11_379 mcX11_knows miX11_knows rfl rfl rfl rfl hl.1 rfl rfl ⟨by decide, by decide⟩ (Nat.le_of_ble_eq_true rfl) ⟨by decide, by decide⟩ dX11_hangs_94 rfl (fun H locs hG => ?_)
      refine lv_aload_n hx hb dX11_hangs_97 rfl (lv_at hl 0 rfl) ?_
      refine lv_iload hx hb dX11_hangs_98 (lv_at hl 4 rfl) ?_
      obtain ⟨r6, S7, hm5, h⟩ := g_bd h
      refine g_callVv (As := [.int a4]) hc hG (mX11_asOf l E hm5) mlX11_382 mcX11_asOf miX11_asOf rfl rfl rfl rfl hl.1 rfl rfl ⟨by decide, by decide⟩ (Nat.le_of_ble_eq_true rfl) ⟨by decide, by decide⟩ dX11_hangs_100 rfl (fun H locs hG => ?_)
      refine lv_iconst (v := (0 : Int32)) hx hb dX11_hangs_103 (by decide) ?_
      refine lv_topi (fun v8 ev8 => ?_)
      have h := g_let ev8 h
      refine lv_istore (lv' := [(6, .int v8), (0, gR E 54), (1, .int a1), (2, .int a2), (3, .int a3), (4, .int a4), (5, .int a5)]) hx hb dX11_hangs_104 hl (by decide) rfl (fun ls hl => ?_)
      refine lv_iconst (v := (0 : Int32)) hx hb dX11_hangs_106 (by decide) ?_
      refine lv_topi (fun v9 ev9 => ?_)
      have h := g_let ev9 h
      refine lv_istore (lv' := [(7, .int v9), (6, .int v8), (0, gR E 54), (1, .int a1), (2, .int a2), (3, .int a3), (4, .int a4), (5, .int a5)]) hx hb dX11_hangs_107 hl (by decide) rfl (fun ls hl => ?_)
      exact wX11_hangs_109 hc FU S7 a2 a3 v8 v9 _ _ _ (lv_sub hl [2, 4, 5, 1, 0] rfl) hG h
    · have h := g_neg c1 h
      refine lv_aload_n hx hb dX11_hangs_53 rfl (lv_at hl 0 rfl) ?_
      refine g_getR hc hG 54 86 flX11_112 rfl rfl rfl dX11_hangs_54 ?_
      refine lv_iload hx hb dX11_hangs_57 (lv_at hl 6 rfl) ?_
      refine lv_aload_n hx hb dX11_hangs_59 rfl (lv_at hl 0 rfl) ?_
      refine g_getR hc hG 54 79 flX11_91 rfl rfl rfl dX11_hangs_60 ?_
      refine lv_iload hx hb dX11_hangs_63 (lv_at hl 6 rfl) ?_
      obtain ⟨hi10, h⟩ := g_if h
      refine g_iald hc hG 79 12 (a6.toNatClampNeg) rfl rfl hi10 rfl dX11_hangs_65 ?_
      refine lv_iload hx hb dX11_hangs_66 (lv_at hl 6 rfl) ?_
      refine lv_icmp_ne (tgt := 82) hx hb dX11_hangs_68 (by decide) (fun c11 => ?_) (fun c11 => ?_)
      · have h := g_neg c11 h
        refine lv_iconst (v := (-1 : Int32)) hx hb dX11_hangs_82 (by decide) ?_
        refine g_iast hc hG 86 12 (a6.toNatClampNeg) rfl rfl hi10 rfl dX11_hangs_83 (fun S12 H locs eS12 hG => ?_)
        have h := g_let eS12 h
        obtain ⟨v13, ev13⟩ : ∃ y : Int32, y = (a6 + (1 : Int32)) := ⟨_, rfl⟩
        have h := g_let ev13 h
        refine lv_iinc (v := v13) (lv' := [(6, .int v13), (0, gR E 54), (1, .int a1), (2, .int a2), (3, .int a3), (4, .int a4), (5, .int a5)]) hx hb dX11_hangs_84 hl (k := 6) rfl (by rw [ev13]; rfl) (by decide) rfl (fun ls hl => ?_)
        refine lv_goto (tgt := 44) hx hb dX11_hangs_87 (by decide) ?_
        exact ih S12 a1 a2 a3 a4 a5 v13 _ _ _ (lv_sub hl [1, 2, 3, 4, 5, 6, 0] rfl) hG h
      · have h := g_pos c11 h
        refine lv_aload_n hx hb dX11_hangs_71 rfl (lv_at hl 0 rfl) ?_
        refine lv_iload hx hb dX11_hangs_72 (lv_at hl 6 rfl) ?_
        refine lv_iload_n hx hb dX11_hangs_74 rfl (lv_at hl 2 rfl) ?_
        refine lv_iload_n hx hb dX11_hangs_75 rfl (lv_at hl 3 rfl) ?_
        obtain ⟨r15, S16, hm14, h⟩ := g_bd h
        refine g_callVi (As := [.int a6, .int a2, .int a3]) hc hG (mX11_standOf l E hm14) mlX11_384 mcX11_standOf miX11_standOf rfl rfl rfl rfl hl.1 rfl rfl ⟨by decide, by decide⟩ (Nat.le_of_ble_eq_true rfl) ⟨by decide, by decide⟩ dX11_hangs_76 rfl (fun H locs hG => ?_)
        refine lv_goto (tgt := 83) hx hb dX11_hangs_79 (by decide) ?_
        refine g_iast hc hG 86 12 (a6.toNatClampNeg) rfl rfl hi10 rfl dX11_hangs_83 (fun S17 H locs eS17 hG => ?_)
        have h := g_let eS17 h
        obtain ⟨v18, ev18⟩ : ∃ y : Int32, y = (a6 + (1 : Int32)) := ⟨_, rfl⟩
        have h := g_let ev18 h
        refine lv_iinc (v := v18) (lv' := [(6, .int v18), (0, gR E 54), (1, .int a1), (2, .int a2), (3, .int a3), (4, .int a4), (5, .int a5)]) hx hb dX11_hangs_84 hl (k := 6) rfl (by rw [ev18]; rfl) (by decide) rfl (fun ls hl => ?_)
        refine lv_goto (tgt := 44) hx hb dX11_hangs_87 (by decide) ?_
        exact ih S17 a1 a2 a3 a4 a5 v18 _ _ _ (lv_sub hl [1, 2, 3, 4, 5, 6, 0] rfl) hG h
def fX11_hangs (S : GS) (a1 : Int32) (a2 : Int32) (a3 : Int32) (a4 : Int32) (a5 : Int32) : Option (Int32 × GS) := glet (gsi S 54 0 (0 : Int32)) fun S1 => gbv (fX11_isCase S1 a1) fun r3 => (if r3 = 0 then (some ((-1 : Int32), S1)) else gbv (fX11_isAsked S1 a2 a3 a4 a5) fun r6 => (if r6 = 0 then (some ((-1 : Int32), S1)) else gbd (fX11_knows S1 a5 (-1 : Int32)) fun r9 S10 => gbd (fX11_asOf S10 a4) fun r12 S13 => glet (0 : Int32) fun v14 => (fX11_hangs_44 FU S13 a1 a2 a3 a4 a5 v14)))
set_option maxRecDepth 100000 in
set_option maxHeartbeats 4000000 in
theorem wX11_hangs_0 {p : Program} {l : Launch} {e : Env} {s : State} {m : MethodId} {args : Array Value} {below : List Frame} {meth : Method} {c : Code} {E : GE} {res : (Int32 × GS)} (hc : GM E p s m args meth c RX11 cX11_hangs 8 (some .int)) : ∀ (S : GS) (a1 : Int32) (a2 : Int32) (a3 : Int32) (a4 : Int32) (a5 : Int32) (H : Heap) (locs : List Loc) (ls : Array Slot), lv_has ls 8 [(0, gR E 54), (1, .int a1), (2, .int a2), (3, .int a3), (4, .int a4), (5, .int a5)] → GX E S H locs → fX11_hangs S a1 a2 a3 a4 a5 = some res → W p l e rmX11_hangs s m args below meth c H locs 0 0 (gZ E below args s (some (.int res.1)) res.2) (F0 m 0 ls []) := by
  obtain ⟨hx, hb, -, -, -, hown, hts, -, -⟩ := id hc
  intro S a1 a2 a3 a4 a5 H locs ls hl hG h
  unfold fX11_hangs at h
  refine lv_aload_n hx hb dX11_hangs_0 rfl (lv_at hl 0 rfl) ?_
  refine lv_iconst (v := (0 : Int32)) hx hb dX11_hangs_1 (by decide) ?_
  refine g_putI hc hG 54 fpX11_115 rfl rfl rfl rfl dX11_hangs_2 (fun S1 H locs eS1 hG => ?_)
  have h := g_let eS1 h
  refine lv_aload_n hx hb dX11_hangs_5 rfl (lv_at hl 0 rfl) ?_
  refine lv_iload_n hx hb dX11_hangs_6 rfl (lv_at hl 1 rfl) ?_
  obtain ⟨r3, hm2, h⟩ := g_bv h
  refine g_callVi (As := [.int a1]) hc hG (mX11_isCase l E hm2) mlX11_285 mcX11_isCase miX11_isCase rfl rfl rfl rfl hl.1 rfl rfl ⟨by decide, by decide⟩ (Nat.le_of_ble_eq_true rfl) ⟨by decide, by decide⟩ dX11_hangs_7 rfl (fun H locs hG => ?_)
  refine lv_if_eq (tgt := 26) hx hb dX11_hangs_10 (by decide) (fun c4 => ?_) (fun c4 => ?_)
  · have h := g_pos c4 h
    refine lv_iconst (v := (-1 : Int32)) hx hb dX11_hangs_26 (by decide) ?_
    exact g_iret hc hG dX11_hangs_27 h
  · have h := g_neg c4 h
    refine lv_aload_n hx hb dX11_hangs_13 rfl (lv_at hl 0 rfl) ?_
    refine lv_iload_n hx hb dX11_hangs_14 rfl (lv_at hl 2 rfl) ?_
    refine lv_iload_n hx hb dX11_hangs_15 rfl (lv_at hl 3 rfl) ?_
    refine lv_iload hx hb dX11_hangs_16 (lv_at hl 4 rfl) ?_
    refine lv_iload hx hb dX11_hangs_18 (lv_at hl 5 rfl) ?_
    obtain ⟨r6, hm5, h⟩ := g_bv h
    refine g_callVi (As := [.int a2, .int a3, .int a4, .int a5]) hc hG (mX11_isAsked l E hm5) mlX11_375 mcX11_isAsked miX11_isAsked rfl rfl rfl rfl hl.1 rfl rfl ⟨by decide, by decide⟩ (Nat.le_of_ble_eq_true rfl) ⟨by decide, by decide⟩ dX11_hangs_20 rfl (fun H locs hG => ?_)
    refine lv_if_ne (tgt := 28) hx hb dX11_hangs_23 (by decide) (fun c7 => ?_) (fun c7 => ?_)
    · have h := g_neg c7 h
      refine lv_aload_n hx hb dX11_hangs_28 rfl (lv_at hl 0 rfl) ?_
      refine lv_iload hx hb dX11_hangs_29 (lv_at hl 5 rfl) ?_
      refine lv_iconst (v := (-1 : Int32)) hx hb dX11_hangs_31 (by decide) ?_
      obtain ⟨r9, S10, hm8, h⟩ := g_bd h
      refine g_callVv (As := [.int a5, .int (-1 : Int32)]) hc hG (mX11_knows l E hm8) mlX11_379 mcX11_knows miX11_knows rfl rfl rfl rfl hl.1 rfl rfl ⟨by decide, by decide⟩ (Nat.le_of_ble_eq_true rfl) ⟨by decide, by decide⟩ dX11_hangs_32 rfl (fun H locs hG => ?_)
      refine lv_aload_n hx hb dX11_hangs_35 rfl (lv_at hl 0 rfl) ?_
      refine lv_iload hx hb dX11_hangs_36 (lv_at hl 4 rfl) ?_
      obtain ⟨r12, S13, hm11, h⟩ := g_bd h
      refine g_callVv (As := [.int a4]) hc hG (mX11_asOf l E hm11) mlX11_382 mcX11_asOf miX11_asOf rfl rfl rfl rfl hl.1 rfl rfl ⟨by decide, by decide⟩ (Nat.le_of_ble_eq_true rfl) ⟨by decide, by decide⟩ dX11_hangs_38 rfl (fun H locs hG => ?_)
      refine lv_iconst (v := (0 : Int32)) hx hb dX11_hangs_41 (by decide) ?_
      refine lv_topi (fun v14 ev14 => ?_)
      have h := g_let ev14 h
      refine lv_istore (lv' := [(6, .int v14), (0, gR E 54), (1, .int a1), (2, .int a2), (3, .int a3), (4, .int a4), (5, .int a5)]) hx hb dX11_hangs_42 hl (by decide) rfl (fun ls hl => ?_)
      exact wX11_hangs_44 hc FU S13 a1 a2 a3 a4 a5 v14 _ _ _ (lv_sub hl [1, 2, 3, 4, 5, 6, 0] rfl) hG h
    · have h := g_pos c7 h
      refine lv_iconst (v := (-1 : Int32)) hx hb dX11_hangs_26 (by decide) ?_
      exact g_iret hc hG dX11_hangs_27 h
theorem mX11_hangs (l : Launch) (E : GE) {S : GS} {a1 : Int32} {a2 : Int32} {a3 : Int32} {a4 : Int32} {a5 : Int32} {res : (Int32 × GS)} (h : fX11_hangs S a1 a2 a3 a4 a5 = some res) : gMet l E yX11_hangs cX11_hangs 8 (some .int) rmX11_hangs [gR E 54, .int a1, .int a2, .int a3, .int a4, .int a5] S (some (.int res.1)) res.2 :=
  g_met (by decide) (Nat.le_of_ble_eq_true rfl) rfl fun p e s m below meth c H ls hc hG hl => wX11_hangs_0 hc S a1 a2 a3 a4 a5 H [] ls hl hG h
abbrev rmX11_joined : Room := { frames := 8, cells := 0, slots := 0, locals := 195 }
def fX11_joined (S : GS) (a1 : Int32) (a2 : Int32) : Option (Int32 × GS) := glet (gsi S 54 0 (0 : Int32)) fun S1 => gbv (fX11_isPoint S1 a1) fun r3 => (if r3 = 0 then (some ((-1 : Int32), S1)) else gbv (fX11_isDay S1 a2) fun r6 => (if r6 = 0 then (some ((-1 : Int32), S1)) else gbd (fX11_knows S1 a2 (-1 : Int32)) fun r9 S10 => (if gib a1 12 = true then (some ((S10.1 79 a1.toNatClampNeg), S10)) else none)))
set_option maxRecDepth 100000 in
set_option maxHeartbeats 4000000 in
theorem wX11_joined_0 {p : Program} {l : Launch} {e : Env} {s : State} {m : MethodId} {args : Array Value} {below : List Frame} {meth : Method} {c : Code} {E : GE} {res : (Int32 × GS)} (hc : GM E p s m args meth c RX11 cX11_joined 3 (some .int)) : ∀ (S : GS) (a1 : Int32) (a2 : Int32) (H : Heap) (locs : List Loc) (ls : Array Slot), lv_has ls 3 [(0, gR E 54), (1, .int a1), (2, .int a2)] → GX E S H locs → fX11_joined S a1 a2 = some res → W p l e rmX11_joined s m args below meth c H locs 0 0 (gZ E below args s (some (.int res.1)) res.2) (F0 m 0 ls []) := by
  obtain ⟨hx, hb, -, -, -, hown, hts, -, -⟩ := id hc
  intro S a1 a2 H locs ls hl hG h
  unfold fX11_joined at h
  refine lv_aload_n hx hb dX11_joined_0 rfl (lv_at hl 0 rfl) ?_
  refine lv_iconst (v := (0 : Int32)) hx hb dX11_joined_1 (by decide) ?_
  refine g_putI hc hG 54 fpX11_115 rfl rfl rfl rfl dX11_joined_2 (fun S1 H locs eS1 hG => ?_)
  have h := g_let eS1 h
  refine lv_aload_n hx hb dX11_joined_5 rfl (lv_at hl 0 rfl) ?_
  refine lv_iload_n hx hb dX11_joined_6 rfl (lv_at hl 1 rfl) ?_
  obtain ⟨r3, hm2, h⟩ := g_bv h
  refine g_callVi (As := [.int a1]) hc hG (mX11_isPoint l E hm2) mlX11_273 mcX11_isPoint miX11_isPoint rfl rfl rfl rfl hl.1 rfl rfl ⟨by decide, by decide⟩ (Nat.le_of_ble_eq_true rfl) ⟨by decide, by decide⟩ dX11_joined_7 rfl (fun H locs hG => ?_)
  refine lv_if_eq (tgt := 20) hx hb dX11_joined_10 (by decide) (fun c4 => ?_) (fun c4 => ?_)
  · have h := g_pos c4 h
    refine lv_iconst (v := (-1 : Int32)) hx hb dX11_joined_20 (by decide) ?_
    exact g_iret hc hG dX11_joined_21 h
  · have h := g_neg c4 h
    refine lv_iload_n hx hb dX11_joined_13 rfl (lv_at hl 2 rfl) ?_
    obtain ⟨r6, hm5, h⟩ := g_bv h
    refine g_callSi (As := [.int a2]) hc hG (mX11_isDay l E hm5) mlX11_296 mcX11_isDay msX11_isDay rfl hl.1 rfl rfl ⟨by decide, by decide⟩ (Nat.le_of_ble_eq_true rfl) ⟨by decide, by decide⟩ dX11_joined_14 rfl (fun H locs hG => ?_)
    refine lv_if_ne (tgt := 22) hx hb dX11_joined_17 (by decide) (fun c7 => ?_) (fun c7 => ?_)
    · have h := g_neg c7 h
      refine lv_aload_n hx hb dX11_joined_22 rfl (lv_at hl 0 rfl) ?_
      refine lv_iload_n hx hb dX11_joined_23 rfl (lv_at hl 2 rfl) ?_
      refine lv_iconst (v := (-1 : Int32)) hx hb dX11_joined_24 (by decide) ?_
      obtain ⟨r9, S10, hm8, h⟩ := g_bd h
      refine g_callVv (As := [.int a2, .int (-1 : Int32)]) hc hG (mX11_knows l E hm8) mlX11_379 mcX11_knows miX11_knows rfl rfl rfl rfl hl.1 rfl rfl ⟨by decide, by decide⟩ (Nat.le_of_ble_eq_true rfl) ⟨by decide, by decide⟩ dX11_joined_25 rfl (fun H locs hG => ?_)
      refine lv_aload_n hx hb dX11_joined_28 rfl (lv_at hl 0 rfl) ?_
      refine g_getR hc hG 54 79 flX11_91 rfl rfl rfl dX11_joined_29 ?_
      refine lv_iload_n hx hb dX11_joined_32 rfl (lv_at hl 1 rfl) ?_
      obtain ⟨hi11, h⟩ := g_if h
      refine g_iald hc hG 79 12 (a1.toNatClampNeg) rfl rfl hi11 rfl dX11_joined_33 ?_
      exact g_iret hc hG dX11_joined_34 h
    · have h := g_pos c7 h
      refine lv_iconst (v := (-1 : Int32)) hx hb dX11_joined_20 (by decide) ?_
      exact g_iret hc hG dX11_joined_21 h
theorem mX11_joined (l : Launch) (E : GE) {S : GS} {a1 : Int32} {a2 : Int32} {res : (Int32 × GS)} (h : fX11_joined S a1 a2 = some res) : gMet l E yX11_joined cX11_joined 3 (some .int) rmX11_joined [gR E 54, .int a1, .int a2] S (some (.int res.1)) res.2 :=
  g_met (by decide) (Nat.le_of_ble_eq_true rfl) rfl fun p e s m below meth c H ls hc hG hl => wX11_joined_0 hc S a1 a2 H [] ls hl hG h
abbrev rmX11_look : Room := { frames := 1, cells := 0, slots := 0, locals := 21 }
def fX11_look_27 (S : GS) (t1 : Int32) (a1 : Int32) (a2 : Int32) : Option (Int32 × GS) := glet (gsi S 54 0 t1) fun S1 => (if (S1.1 54 0) = 0 then (if a2 = 0 then (if gib a1 32 = true then (some ((S1.1 66 a1.toNatClampNeg), S1)) else none) else (if a2 = (1 : Int32) then (if gib a1 32 = true then (some ((S1.1 67 a1.toNatClampNeg), S1)) else none) else (if a2 = (2 : Int32) then (if gib a1 32 = true then (some ((S1.1 68 a1.toNatClampNeg), S1)) else none) else (if a2 = (3 : Int32) then (if gib a1 32 = true then (some ((S1.1 69 a1.toNatClampNeg), S1)) else none) else (if gib a1 32 = true then (some ((S1.1 70 a1.toNatClampNeg), S1)) else none))))) else (some ((0 : Int32), S1)))
set_option maxRecDepth 100000 in
set_option maxHeartbeats 4000000 in
theorem wX11_look_27 {p : Program} {l : Launch} {e : Env} {s : State} {m : MethodId} {args : Array Value} {below : List Frame} {meth : Method} {c : Code} {E : GE} {res : (Int32 × GS)} (hc : GM E p s m args meth c RX11 cX11_look 3 (some .int)) : ∀ (S : GS) (t1 : Int32) (a1 : Int32) (a2 : Int32) (H : Heap) (locs : List Loc) (ls : Array Slot), lv_has ls 3 [(0, gR E 54), (1, .int a1), (2, .int a2)] → GX E S H locs → fX11_look_27 S t1 a1 a2 = some res → W p l e rmX11_look s m args below meth c H locs 0 0 (gZ E below args s (some (.int res.1)) res.2) (F0 m 27 ls [.int t1, gR E 54]) := by
  obtain ⟨hx, hb, -, -, -, hown, hts, -, -⟩ := id hc
  intro S t1 a1 a2 H locs ls hl hG h
  unfold fX11_look_27 at h
  refine g_putI hc hG 54 fpX11_115 rfl rfl rfl rfl dX11_look_27 (fun S1 H locs eS1 hG => ?_)
  have h := g_let eS1 h
  refine lv_aload_n hx hb dX11_look_30 rfl (lv_at hl 0 rfl) ?_
  refine g_getI hc hG 54 flX11_115 rfl rfl dX11_look_31 ?_
  refine lv_if_eq (tgt := 39) hx hb dX11_look_34 (by decide) (fun c2 => ?_) (fun c2 => ?_)
  · have h := g_pos c2 h
    refine lv_iload_n hx hb dX11_look_39 rfl (lv_at hl 2 rfl) ?_
    refine lv_if_ne (tgt := 52) hx hb dX11_look_40 (by decide) (fun c3 => ?_) (fun c3 => ?_)
    · have h := g_neg c3 h
      refine lv_iload_n hx hb dX11_look_52 rfl (lv_at hl 2 rfl) ?_
      refine lv_iconst (v := (1 : Int32)) hx hb dX11_look_53 (by decide) ?_
      refine lv_icmp_ne (tgt := 66) hx hb dX11_look_54 (by decide) (fun c4 => ?_) (fun c4 => ?_)
      · have h := g_neg c4 h
        refine lv_iload_n hx hb dX11_look_66 rfl (lv_at hl 2 rfl) ?_
        refine lv_iconst (v := (2 : Int32)) hx hb dX11_look_67 (by decide) ?_
        refine lv_icmp_ne (tgt := 80) hx hb dX11_look_68 (by decide) (fun c5 => ?_) (fun c5 => ?_)
        · have h := g_neg c5 h
          refine lv_iload_n hx hb dX11_look_80 rfl (lv_at hl 2 rfl) ?_
          refine lv_iconst (v := (3 : Int32)) hx hb dX11_look_81 (by decide) ?_
          refine lv_icmp_ne (tgt := 94) hx hb dX11_look_82 (by decide) (fun c6 => ?_) (fun c6 => ?_)
          · have h := g_neg c6 h
            refine lv_aload_n hx hb dX11_look_94 rfl (lv_at hl 0 rfl) ?_
            refine g_getR hc hG 54 70 flX11_64 rfl rfl rfl dX11_look_95 ?_
            refine lv_iload_n hx hb dX11_look_98 rfl (lv_at hl 1 rfl) ?_
            obtain ⟨hi7, h⟩ := g_if h
            refine g_iald hc hG 70 32 (a1.toNatClampNeg) rfl rfl hi7 rfl dX11_look_99 ?_
            exact g_iret hc hG dX11_look_100 h
          · have h := g_pos c6 h
            refine lv_aload_n hx hb dX11_look_85 rfl (lv_at hl 0 rfl) ?_
            refine g_getR hc hG 54 69 flX11_61 rfl rfl rfl dX11_look_86 ?_
            refine lv_iload_n hx hb dX11_look_89 rfl (lv_at hl 1 rfl) ?_
            obtain ⟨hi8, h⟩ := g_if h
            refine g_iald hc hG 69 32 (a1.toNatClampNeg) rfl rfl hi8 rfl dX11_look_90 ?_
            refine lv_goto (tgt := 100) hx hb dX11_look_91 (by decide) ?_
            exact g_iret hc hG dX11_look_100 h
        · have h := g_pos c5 h
          refine lv_aload_n hx hb dX11_look_71 rfl (lv_at hl 0 rfl) ?_
          refine g_getR hc hG 54 68 flX11_58 rfl rfl rfl dX11_look_72 ?_
          refine lv_iload_n hx hb dX11_look_75 rfl (lv_at hl 1 rfl) ?_
          obtain ⟨hi9, h⟩ := g_if h
          refine g_iald hc hG 68 32 (a1.toNatClampNeg) rfl rfl hi9 rfl dX11_look_76 ?_
          refine lv_goto (tgt := 100) hx hb dX11_look_77 (by decide) ?_
          exact g_iret hc hG dX11_look_100 h
      · have h := g_pos c4 h
        refine lv_aload_n hx hb dX11_look_57 rfl (lv_at hl 0 rfl) ?_
        refine g_getR hc hG 54 67 flX11_55 rfl rfl rfl dX11_look_58 ?_
        refine lv_iload_n hx hb dX11_look_61 rfl (lv_at hl 1 rfl) ?_
        obtain ⟨hi10, h⟩ := g_if h
        refine g_iald hc hG 67 32 (a1.toNatClampNeg) rfl rfl hi10 rfl dX11_look_62 ?_
        refine lv_goto (tgt := 100) hx hb dX11_look_63 (by decide) ?_
        exact g_iret hc hG dX11_look_100 h
    · have h := g_pos c3 h
      refine lv_aload_n hx hb dX11_look_43 rfl (lv_at hl 0 rfl) ?_
      refine g_getR hc hG 54 66 flX11_52 rfl rfl rfl dX11_look_44 ?_
      refine lv_iload_n hx hb dX11_look_47 rfl (lv_at hl 1 rfl) ?_
      obtain ⟨hi11, h⟩ := g_if h
      refine g_iald hc hG 66 32 (a1.toNatClampNeg) rfl rfl hi11 rfl dX11_look_48 ?_
      refine lv_goto (tgt := 100) hx hb dX11_look_49 (by decide) ?_
      exact g_iret hc hG dX11_look_100 h
  · have h := g_neg c2 h
    refine lv_iconst (v := (0 : Int32)) hx hb dX11_look_37 (by decide) ?_
    exact g_iret hc hG dX11_look_38 h
def fX11_look_22 (S : GS) (a1 : Int32) (a2 : Int32) : Option (Int32 × GS) := (fX11_look_27 S (2 : Int32) a1 a2)
set_option maxRecDepth 100000 in
set_option maxHeartbeats 4000000 in
theorem wX11_look_22 {p : Program} {l : Launch} {e : Env} {s : State} {m : MethodId} {args : Array Value} {below : List Frame} {meth : Method} {c : Code} {E : GE} {res : (Int32 × GS)} (hc : GM E p s m args meth c RX11 cX11_look 3 (some .int)) : ∀ (S : GS) (a1 : Int32) (a2 : Int32) (H : Heap) (locs : List Loc) (ls : Array Slot), lv_has ls 3 [(0, gR E 54), (1, .int a1), (2, .int a2)] → GX E S H locs → fX11_look_22 S a1 a2 = some res → W p l e rmX11_look s m args below meth c H locs 0 0 (gZ E below args s (some (.int res.1)) res.2) (F0 m 22 ls [gR E 54]) := by
  obtain ⟨hx, hb, -, -, -, hown, hts, -, -⟩ := id hc
  intro S a1 a2 H locs ls hl hG h
  unfold fX11_look_22 at h
  refine lv_iconst (v := (2 : Int32)) hx hb dX11_look_22 (by decide) ?_
  refine lv_goto (tgt := 27) hx hb dX11_look_23 (by decide) ?_
  exact wX11_look_27 hc S (2 : Int32) a1 a2 _ _ _ (lv_sub hl [0, 1, 2] rfl) hG h
def fX11_look (S : GS) (a1 : Int32) (a2 : Int32) : Option (Int32 × GS) := gbv (fX11_isCase S a1) fun r2 => (if r2 = 0 then (fX11_look_27 S (1 : Int32) a1 a2) else (if a2 < 0 then (fX11_look_22 S a1 a2) else (if a2 ≤ (4 : Int32) then (fX11_look_27 S (0 : Int32) a1 a2) else (fX11_look_22 S a1 a2))))
set_option maxRecDepth 100000 in
set_option maxHeartbeats 4000000 in
theorem wX11_look_0 {p : Program} {l : Launch} {e : Env} {s : State} {m : MethodId} {args : Array Value} {below : List Frame} {meth : Method} {c : Code} {E : GE} {res : (Int32 × GS)} (hc : GM E p s m args meth c RX11 cX11_look 3 (some .int)) : ∀ (S : GS) (a1 : Int32) (a2 : Int32) (H : Heap) (locs : List Loc) (ls : Array Slot), lv_has ls 3 [(0, gR E 54), (1, .int a1), (2, .int a2)] → GX E S H locs → fX11_look S a1 a2 = some res → W p l e rmX11_look s m args below meth c H locs 0 0 (gZ E below args s (some (.int res.1)) res.2) (F0 m 0 ls []) := by
  obtain ⟨hx, hb, -, -, -, hown, hts, -, -⟩ := id hc
  intro S a1 a2 H locs ls hl hG h
  unfold fX11_look at h
  refine lv_aload_n hx hb dX11_look_0 rfl (lv_at hl 0 rfl) ?_
  refine lv_aload_n hx hb dX11_look_1 rfl (lv_at hl 0 rfl) ?_
  refine lv_iload_n hx hb dX11_look_2 rfl (lv_at hl 1 rfl) ?_
  obtain ⟨r2, hm1, h⟩ := g_bv h
  refine g_callVi (As := [.int a1]) hc hG (mX11_isCase l E hm1) mlX11_285 mcX11_isCase miX11_isCase rfl rfl rfl rfl hl.1 rfl rfl ⟨by decide, by decide⟩ (Nat.le_of_ble_eq_true rfl) ⟨by decide, by decide⟩ dX11_look_3 rfl (fun H locs hG => ?_)
  refine lv_if_ne (tgt := 13) hx hb dX11_look_6 (by decide) (fun c3 => ?_) (fun c3 => ?_)
  · have h := g_neg c3 h
    refine lv_iload_n hx hb dX11_look_13 rfl (lv_at hl 2 rfl) ?_
    refine lv_if_lt (tgt := 22) hx hb dX11_look_14 (by decide) (fun c4 => ?_) (fun c4 => ?_)
    · have h := g_pos c4 h
      exact wX11_look_22 hc S a1 a2 _ _ _ (lv_sub hl [0, 1, 2] rfl) hG h
    · have h := g_neg c4 h
      refine lv_iload_n hx hb dX11_look_17 rfl (lv_at hl 2 rfl) ?_
      refine lv_iconst (v := (4 : Int32)) hx hb dX11_look_18 (by decide) ?_
      refine lv_icmp_le (tgt := 26) hx hb dX11_look_19 (by decide) (fun c5 => ?_) (fun c5 => ?_)
      · have h := g_pos c5 h
        refine lv_iconst (v := (0 : Int32)) hx hb dX11_look_26 (by decide) ?_
        exact wX11_look_27 hc S (0 : Int32) a1 a2 _ _ _ (lv_sub hl [0, 1, 2] rfl) hG h
      · have h := g_neg c5 h
        exact wX11_look_22 hc S a1 a2 _ _ _ (lv_sub hl [0, 1, 2] rfl) hG h
  · have h := g_pos c3 h
    refine lv_iconst (v := (1 : Int32)) hx hb dX11_look_9 (by decide) ?_
    refine lv_goto (tgt := 27) hx hb dX11_look_10 (by decide) ?_
    exact wX11_look_27 hc S (1 : Int32) a1 a2 _ _ _ (lv_sub hl [0, 1, 2] rfl) hG h
theorem mX11_look (l : Launch) (E : GE) {S : GS} {a1 : Int32} {a2 : Int32} {res : (Int32 × GS)} (h : fX11_look S a1 a2 = some res) : gMet l E yX11_look cX11_look 3 (some .int) rmX11_look [gR E 54, .int a1, .int a2] S (some (.int res.1)) res.2 :=
  g_met (by decide) (Nat.le_of_ble_eq_true rfl) rfl fun p e s m below meth c H ls hc hG hl => wX11_look_0 hc S a1 a2 H [] ls hl hG h
abbrev rmX11_count : Room := { frames := 0, cells := 0, slots := 0, locals := 0 }
def fX11_count (S : GS) (a1 : Int32) : Option (Int32 × GS) := glet (gsi S 54 0 (0 : Int32)) fun S1 => (if a1 = (0 : Int32) then (some ((S1.1 54 29), S1)) else (if a1 = (1 : Int32) then (some ((S1.1 54 30), S1)) else (if a1 = (2 : Int32) then (some ((S1.1 54 33), S1)) else (if a1 = (3 : Int32) then (some ((S1.1 54 35), S1)) else (if a1 = (4 : Int32) then (some ((S1.1 54 41), S1)) else (if a1 = (5 : Int32) then (some ((S1.1 54 9), S1)) else (if a1 = (6 : Int32) then (some ((S1.1 54 7), S1)) else (some ((-1 : Int32), S1)))))))))
set_option maxRecDepth 100000 in
set_option maxHeartbeats 4000000 in
theorem wX11_count_0 {p : Program} {l : Launch} {e : Env} {s : State} {m : MethodId} {args : Array Value} {below : List Frame} {meth : Method} {c : Code} {E : GE} {res : (Int32 × GS)} (hc : GM E p s m args meth c RX11 cX11_count 2 (some .int)) : ∀ (S : GS) (a1 : Int32) (H : Heap) (locs : List Loc) (ls : Array Slot), lv_has ls 2 [(0, gR E 54), (1, .int a1)] → GX E S H locs → fX11_count S a1 = some res → W p l e rmX11_count s m args below meth c H locs 0 0 (gZ E below args s (some (.int res.1)) res.2) (F0 m 0 ls []) := by
  obtain ⟨hx, hb, -, -, -, hown, hts, -, -⟩ := id hc
  intro S a1 H locs ls hl hG h
  unfold fX11_count at h
  refine lv_aload_n hx hb dX11_count_0 rfl (lv_at hl 0 rfl) ?_
  refine lv_iconst (v := (0 : Int32)) hx hb dX11_count_1 (by decide) ?_
  refine g_putI hc hG 54 fpX11_115 rfl rfl rfl rfl dX11_count_2 (fun S1 H locs eS1 hG => ?_)
  have h := g_let eS1 h
  refine lv_iload_n hx hb dX11_count_5 rfl (lv_at hl 1 rfl) ?_
  by_cases c2 : a1 = (0 : Int32)
  · have h := g_pos c2 h
    refine lv_tableIn (off := 42) (tgt := 48) hx hb dX11_count_6 (by rw [c2]; decide) (by rw [c2]; decide) (by rw [c2]; decide) (by decide) ?_
    refine lv_aload_n hx hb dX11_count_48 rfl (lv_at hl 0 rfl) ?_
    refine g_getI hc hG 54 flX11_261 rfl rfl dX11_count_49 ?_
    exact g_iret hc hG dX11_count_52 h
  have h := g_neg c2 h
  by_cases c3 : a1 = (1 : Int32)
  · have h := g_pos c3 h
    refine lv_tableIn (off := 47) (tgt := 53) hx hb dX11_count_6 (by rw [c3]; decide) (by rw [c3]; decide) (by rw [c3]; decide) (by decide) ?_
    refine lv_aload_n hx hb dX11_count_53 rfl (lv_at hl 0 rfl) ?_
    refine g_getI hc hG 54 flX11_264 rfl rfl dX11_count_54 ?_
    exact g_iret hc hG dX11_count_57 h
  have h := g_neg c3 h
  by_cases c4 : a1 = (2 : Int32)
  · have h := g_pos c4 h
    refine lv_tableIn (off := 52) (tgt := 58) hx hb dX11_count_6 (by rw [c4]; decide) (by rw [c4]; decide) (by rw [c4]; decide) (by decide) ?_
    refine lv_aload_n hx hb dX11_count_58 rfl (lv_at hl 0 rfl) ?_
    refine g_getI hc hG 54 flX11_267 rfl rfl dX11_count_59 ?_
    exact g_iret hc hG dX11_count_62 h
  have h := g_neg c4 h
  by_cases c5 : a1 = (3 : Int32)
  · have h := g_pos c5 h
    refine lv_tableIn (off := 57) (tgt := 63) hx hb dX11_count_6 (by rw [c5]; decide) (by rw [c5]; decide) (by rw [c5]; decide) (by decide) ?_
    refine lv_aload_n hx hb dX11_count_63 rfl (lv_at hl 0 rfl) ?_
    refine g_getI hc hG 54 flX11_270 rfl rfl dX11_count_64 ?_
    exact g_iret hc hG dX11_count_67 h
  have h := g_neg c5 h
  by_cases c6 : a1 = (4 : Int32)
  · have h := g_pos c6 h
    refine lv_tableIn (off := 62) (tgt := 68) hx hb dX11_count_6 (by rw [c6]; decide) (by rw [c6]; decide) (by rw [c6]; decide) (by decide) ?_
    refine lv_aload_n hx hb dX11_count_68 rfl (lv_at hl 0 rfl) ?_
    refine g_getI hc hG 54 flX11_282 rfl rfl dX11_count_69 ?_
    exact g_iret hc hG dX11_count_72 h
  have h := g_neg c6 h
  by_cases c7 : a1 = (5 : Int32)
  · have h := g_pos c7 h
    refine lv_tableIn (off := 67) (tgt := 73) hx hb dX11_count_6 (by rw [c7]; decide) (by rw [c7]; decide) (by rw [c7]; decide) (by decide) ?_
    refine lv_aload_n hx hb dX11_count_73 rfl (lv_at hl 0 rfl) ?_
    refine g_getI hc hG 54 flX11_234 rfl rfl dX11_count_74 ?_
    exact g_iret hc hG dX11_count_77 h
  have h := g_neg c7 h
  by_cases c8 : a1 = (6 : Int32)
  · have h := g_pos c8 h
    refine lv_tableIn (off := 72) (tgt := 78) hx hb dX11_count_6 (by rw [c8]; decide) (by rw [c8]; decide) (by rw [c8]; decide) (by decide) ?_
    refine lv_aload_n hx hb dX11_count_78 rfl (lv_at hl 0 rfl) ?_
    refine g_getI hc hG 54 flX11_26 rfl rfl dX11_count_79 ?_
    exact g_iret hc hG dX11_count_82 h
  have h := g_neg c8 h
  have zc2 : ¬ Int32.toInt a1 = 0 := fun q => c2 (Int32.toInt_inj.mp (q.trans (by decide)))
  have zc3 : ¬ Int32.toInt a1 = 1 := fun q => c3 (Int32.toInt_inj.mp (q.trans (by decide)))
  have zc4 : ¬ Int32.toInt a1 = 2 := fun q => c4 (Int32.toInt_inj.mp (q.trans (by decide)))
  have zc5 : ¬ Int32.toInt a1 = 3 := fun q => c5 (Int32.toInt_inj.mp (q.trans (by decide)))
  have zc6 : ¬ Int32.toInt a1 = 4 := fun q => c6 (Int32.toInt_inj.mp (q.trans (by decide)))
  have zc7 : ¬ Int32.toInt a1 = 5 := fun q => c7 (Int32.toInt_inj.mp (q.trans (by decide)))
  have zc8 : ¬ Int32.toInt a1 = 6 := fun q => c8 (Int32.toInt_inj.mp (q.trans (by decide)))
  refine lv_tableOut (tgt := 83) hx hb dX11_count_6 (by omega) (by decide) ?_
  refine lv_iconst (v := (-1 : Int32)) hx hb dX11_count_83 (by decide) ?_
  exact g_iret hc hG dX11_count_84 h
theorem mX11_count (l : Launch) (E : GE) {S : GS} {a1 : Int32} {res : (Int32 × GS)} (h : fX11_count S a1 = some res) : gMet l E yX11_count cX11_count 2 (some .int) rmX11_count [gR E 54, .int a1] S (some (.int res.1)) res.2 :=
  g_met (by decide) (Nat.le_of_ble_eq_true rfl) rfl fun p e s m below meth c H ls hc hG hl => wX11_count_0 hc S a1 H [] ls hl hG h

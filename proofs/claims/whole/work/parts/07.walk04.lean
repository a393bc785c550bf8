abbrev rmX10_isPoint : Room := { frames := 0, cells := 0, slots := 0, locals := 0 }
def fX10_isPoint (S : GS) (a1 : Int32) : Option Int32 := (if a1 < 0 then (some (0 : Int32)) else (if (S.1 5 0) ≤ a1 then (some (0 : Int32)) else (some (1 : Int32))))
set_option maxRecDepth 100000 in
set_option maxHeartbeats 4000000 in
theorem wX10_isPoint_0 {p : Program} {l : Launch} {e : Env} {s : State} {m : MethodId} {args : Array Value} {below : List Frame} {meth : Method} {c : Code} {E : GE} {res : Int32} (hc : GM E p s m args meth c RX10 cX10_isPoint 2 (some .boolean)) : ∀ (S : GS) (a1 : Int32) (H : Heap) (locs : List Loc) (ls : Array Slot), lv_has ls 2 [(0, gR E 0), (1, .int a1)] → GX E S H locs → fX10_isPoint S a1 = some res → W p l e rmX10_isPoint s m args below meth c H locs 0 0 (gZ E below args s (some (.int res)) S) (F0 m 0 ls []) := by
  obtain ⟨hx, hb, -, -, -, hown, hts, -, -⟩ := id hc
  intro S a1 H locs ls hl hG h
  unfold fX10_isPoint at h
  refine lv_iload_n hx hb dX10_isPoint_0 rfl (lv_at hl 1 rfl) ?_
  refine lv_if_lt (tgt := 19) hx hb dX10_isPoint_1 (by decide) (fun c1 => ?_) (fun c1 => ?_)
  · have h := g_pos c1 h
    refine lv_iconst (v := (0 : Int32)) hx hb dX10_isPoint_19 (by decide) ?_
    exact g_zretp hc hG (Or.inl rfl) dX10_isPoint_20 h
  · have h := g_neg c1 h
    refine lv_iload_n hx hb dX10_isPoint_4 rfl (lv_at hl 1 rfl) ?_
    refine lv_aload_n hx hb dX10_isPoint_5 rfl (lv_at hl 0 rfl) ?_
    refine g_getR hc hG 0 5 flX10_23 rfl rfl rfl dX10_isPoint_6 ?_
    refine g_getI hc hG 5 flX10_113 rfl rfl dX10_isPoint_9 ?_
    refine lv_icmp_ge (tgt := 19) hx hb dX10_isPoint_12 (by decide) (fun c2 => ?_) (fun c2 => ?_)
    · have h := g_pos c2 h
      refine lv_iconst (v := (0 : Int32)) hx hb dX10_isPoint_19 (by decide) ?_
      exact g_zretp hc hG (Or.inl rfl) dX10_isPoint_20 h
    · have h := g_neg c2 h
      refine lv_iconst (v := (1 : Int32)) hx hb dX10_isPoint_15 (by decide) ?_
      refine lv_goto (tgt := 20) hx hb dX10_isPoint_16 (by decide) ?_
      exact g_zretp hc hG (Or.inr rfl) dX10_isPoint_20 h
theorem mX10_isPoint (l : Launch) (E : GE) {S : GS} {a1 : Int32} {res : Int32} (h : fX10_isPoint S a1 = some res) : gMet l E yX10_isPoint cX10_isPoint 2 (some .boolean) rmX10_isPoint [gR E 0, .int a1] S (some (.int res)) S :=
  g_met (by decide) (Nat.le_of_ble_eq_true rfl) rfl fun p e s m below meth c H ls hc hG hl => wX10_isPoint_0 hc S a1 H [] ls hl hG h
abbrev rmX10_oppose : Room := { frames := 2, cells := 0, slots := 0, locals := 43 }
def fX10_oppose (S : GS) (a1 : Int32) (a2 : Int32) (a3 : Int32) : Option (Int32 × GS) := gbv (fX10_isPoint S a1) fun r2 => (if r2 = 0 then (some ((0 : Int32), S)) else gbv (fX10_isPoint S a2) fun r5 => (if r5 = 0 then (some ((0 : Int32), S)) else (if a1 = a2 then (some ((0 : Int32), S)) else gbv (fX5_areOpposed S a1 a2) fun r9 => (if r9 = a3 then (some ((0 : Int32), S)) else gbd (fX5_turnOpposed S a1 a2) fun r12 S13 => (some ((1 : Int32), S13))))))
set_option maxRecDepth 100000 in
set_option maxHeartbeats 4000000 in
theorem wX10_oppose_0 {p : Program} {l : Launch} {e : Env} {s : State} {m : MethodId} {args : Array Value} {below : List Frame} {meth : Method} {c : Code} {E : GE} {res : (Int32 × GS)} (hc : GM E p s m args meth c RX10 cX10_oppose 4 (some .boolean)) : ∀ (S : GS) (a1 : Int32) (a2 : Int32) (a3 : Int32) (H : Heap) (locs : List Loc) (ls : Array Slot), lv_has ls 4 [(0, gR E 0), (1, .int a1), (2, .int a2), (3, .int a3)] → GX E S H locs → fX10_oppose S a1 a2 a3 = some res → W p l e rmX10_oppose s m args below meth c H locs 0 0 (gZ E below args s (some (.int res.1)) res.2) (F0 m 0 ls []) := by
  obtain ⟨hx, hb, -, -, -, hown, hts, -, -⟩ := id hc
  intro S a1 a2 a3 H locs ls hl hG h
  unfold fX10_oppose at h
  refine lv_aload_n hx hb dX10_oppose_0 rfl (lv_at hl 0 rfl) ?_
  refine lv_iload_n hx hb dX10_oppose_1 rfl (lv_at hl 1 rfl) ?_
  obtain ⟨r2, hm1, h⟩ := g_bv h
  refine g_callVi (As := [.int a1]) hc hG (mX10_isPoint l E hm1) mlX10_116 mcX10_isPoint miX10_isPoint rfl rfl rfl rfl hl.1 rfl rfl ⟨by decide, by decide⟩ (Nat.le_of_ble_eq_true rfl) ⟨by decide, by decide⟩ dX10_oppose_2 rfl (fun H locs hG => ?_)
  refine lv_if_eq (tgt := 34) hx hb dX10_oppose_5 (by decide) (fun c3 => ?_) (fun c3 => ?_)
  · have h := g_pos c3 h
    refine lv_iconst (v := (0 : Int32)) hx hb dX10_oppose_34 (by decide) ?_
    exact g_zret hc hG (Or.inl rfl) dX10_oppose_35 h
  · have h := g_neg c3 h
    refine lv_aload_n hx hb dX10_oppose_8 rfl (lv_at hl 0 rfl) ?_
    refine lv_iload_n hx hb dX10_oppose_9 rfl (lv_at hl 2 rfl) ?_
    obtain ⟨r5, hm4, h⟩ := g_bv h
    refine g_callVi (As := [.int a2]) hc hG (mX10_isPoint l E hm4) mlX10_116 mcX10_isPoint miX10_isPoint rfl rfl rfl rfl hl.1 rfl rfl ⟨by decide, by decide⟩ (Nat.le_of_ble_eq_true rfl) ⟨by decide, by decide⟩ dX10_oppose_10 rfl (fun H locs hG => ?_)
    refine lv_if_eq (tgt := 34) hx hb dX10_oppose_13 (by decide) (fun c6 => ?_) (fun c6 => ?_)
    · have h := g_pos c6 h
      refine lv_iconst (v := (0 : Int32)) hx hb dX10_oppose_34 (by decide) ?_
      exact g_zret hc hG (Or.inl rfl) dX10_oppose_35 h
    · have h := g_neg c6 h
      refine lv_iload_n hx hb dX10_oppose_16 rfl (lv_at hl 1 rfl) ?_
      refine lv_iload_n hx hb dX10_oppose_17 rfl (lv_at hl 2 rfl) ?_
      refine lv_icmp_eq (tgt := 34) hx hb dX10_oppose_18 (by decide) (fun c7 => ?_) (fun c7 => ?_)
      · have h := g_pos c7 h
        refine lv_iconst (v := (0 : Int32)) hx hb dX10_oppose_34 (by decide) ?_
        exact g_zret hc hG (Or.inl rfl) dX10_oppose_35 h
      · have h := g_neg c7 h
        refine lv_aload_n hx hb dX10_oppose_21 rfl (lv_at hl 0 rfl) ?_
        refine g_getR hc hG 0 5 flX10_23 rfl rfl rfl dX10_oppose_22 ?_
        refine lv_iload_n hx hb dX10_oppose_25 rfl (lv_at hl 1 rfl) ?_
        refine lv_iload_n hx hb dX10_oppose_26 rfl (lv_at hl 2 rfl) ?_
        obtain ⟨r9, hm8, h⟩ := g_bv h
        refine g_callVi (As := [.int a1, .int a2]) hc hG (mX5_areOpposed l E hm8) mlX10_119 mcX5_areOpposed miX5_areOpposed rfl rfl rfl rfl hl.1 rfl rfl ⟨by decide, by decide⟩ (Nat.le_of_ble_eq_true rfl) ⟨by decide, by decide⟩ dX10_oppose_27 rfl (fun H locs hG => ?_)
        refine lv_iload_n hx hb dX10_oppose_30 rfl (lv_at hl 3 rfl) ?_
        refine lv_icmp_ne (tgt := 36) hx hb dX10_oppose_31 (by decide) (fun c10 => ?_) (fun c10 => ?_)
        · have h := g_neg c10 h
          refine lv_aload_n hx hb dX10_oppose_36 rfl (lv_at hl 0 rfl) ?_
          refine g_getR hc hG 0 5 flX10_23 rfl rfl rfl dX10_oppose_37 ?_
          refine lv_iload_n hx hb dX10_oppose_40 rfl (lv_at hl 1 rfl) ?_
          refine lv_iload_n hx hb dX10_oppose_41 rfl (lv_at hl 2 rfl) ?_
          obtain ⟨r12, S13, hm11, h⟩ := g_bd h
          refine g_callVv (As := [.int a1, .int a2]) hc hG (mX5_turnOpposed l E hm11) mlX10_123 mcX5_turnOpposed miX5_turnOpposed rfl rfl rfl rfl hl.1 rfl rfl ⟨by decide, by decide⟩ (Nat.le_of_ble_eq_true rfl) ⟨by decide, by decide⟩ dX10_oppose_42 rfl (fun H locs hG => ?_)
          refine lv_iconst (v := (1 : Int32)) hx hb dX10_oppose_45 (by decide) ?_
          exact g_zret hc hG (Or.inr rfl) dX10_oppose_46 h
        · have h := g_pos c10 h
          refine lv_iconst (v := (0 : Int32)) hx hb dX10_oppose_34 (by decide) ?_
          exact g_zret hc hG (Or.inl rfl) dX10_oppose_35 h
theorem mX10_oppose (l : Launch) (E : GE) {S : GS} {a1 : Int32} {a2 : Int32} {a3 : Int32} {res : (Int32 × GS)} (h : fX10_oppose S a1 a2 a3 = some res) : gMet l E yX10_oppose cX10_oppose 4 (some .boolean) rmX10_oppose [gR E 0, .int a1, .int a2, .int a3] S (some (.int res.1)) res.2 :=
  g_met (by decide) (Nat.le_of_ble_eq_true rfl) rfl fun p e s m below meth c H ls hc hG hl => wX10_oppose_0 hc S a1 a2 a3 H [] ls hl hG h
abbrev rmX10_isCourt : Room := { frames := 0, cells := 0, slots := 0, locals := 0 }
def fX10_isCourt (S : GS) (a1 : Int32) : Option Int32 := (if a1 < 0 then (some (0 : Int32)) else (if (S.1 2 0) ≤ a1 then (some (0 : Int32)) else (some (1 : Int32))))
set_option maxRecDepth 100000 in
set_option maxHeartbeats 4000000 in
theorem wX10_isCourt_0 {p : Program} {l : Launch} {e : Env} {s : State} {m : MethodId} {args : Array Value} {below : List Frame} {meth : Method} {c : Code} {E : GE} {res : Int32} (hc : GM E p s m args meth c RX10 cX10_isCourt 2 (some .boolean)) : ∀ (S : GS) (a1 : Int32) (H : Heap) (locs : List Loc) (ls : Array Slot), lv_has ls 2 [(0, gR E 0), (1, .int a1)] → GX E S H locs → fX10_isCourt S a1 = some res → W p l e rmX10_isCourt s m args below meth c H locs 0 0 (gZ E below args s (some (.int res)) S) (F0 m 0 ls []) := by
  obtain ⟨hx, hb, -, -, -, hown, hts, -, -⟩ := id hc
  intro S a1 H locs ls hl hG h
  unfold fX10_isCourt at h
  refine lv_iload_n hx hb dX10_isCourt_0 rfl (lv_at hl 1 rfl) ?_
  refine lv_if_lt (tgt := 19) hx hb dX10_isCourt_1 (by decide) (fun c1 => ?_) (fun c1 => ?_)
  · have h := g_pos c1 h
    refine lv_iconst (v := (0 : Int32)) hx hb dX10_isCourt_19 (by decide) ?_
    exact g_zretp hc hG (Or.inl rfl) dX10_isCourt_20 h
  · have h := g_neg c1 h
    refine lv_iload_n hx hb dX10_isCourt_4 rfl (lv_at hl 1 rfl) ?_
    refine lv_aload_n hx hb dX10_isCourt_5 rfl (lv_at hl 0 rfl) ?_
    refine g_getR hc hG 0 2 flX10_16 rfl rfl rfl dX10_isCourt_6 ?_
    refine g_getI hc hG 2 flX10_229 rfl rfl dX10_isCourt_9 ?_
    refine lv_icmp_ge (tgt := 19) hx hb dX10_isCourt_12 (by decide) (fun c2 => ?_) (fun c2 => ?_)
    · have h := g_pos c2 h
      refine lv_iconst (v := (0 : Int32)) hx hb dX10_isCourt_19 (by decide) ?_
      exact g_zretp hc hG (Or.inl rfl) dX10_isCourt_20 h
    · have h := g_neg c2 h
      refine lv_iconst (v := (1 : Int32)) hx hb dX10_isCourt_15 (by decide) ?_
      refine lv_goto (tgt := 20) hx hb dX10_isCourt_16 (by decide) ?_
      exact g_zretp hc hG (Or.inr rfl) dX10_isCourt_20 h
theorem mX10_isCourt (l : Launch) (E : GE) {S : GS} {a1 : Int32} {res : Int32} (h : fX10_isCourt S a1 = some res) : gMet l E yX10_isCourt cX10_isCourt 2 (some .boolean) rmX10_isCourt [gR E 0, .int a1] S (some (.int res)) S :=
  g_met (by decide) (Nat.le_of_ble_eq_true rfl) rfl fun p e s m below meth c H ls hc hG hl => wX10_isCourt_0 hc S a1 H [] ls hl hG h
abbrev rmX10_areFacts : Room := { frames := 0, cells := 0, slots := 0, locals := 0 }
def fX10_areFacts (S : GS) (a0 : Int32) : Option Int32 := (if a0 < 0 then (some (0 : Int32)) else (if (1023 : Int32) < a0 then (some (0 : Int32)) else (some (1 : Int32))))
set_option maxRecDepth 100000 in
set_option maxHeartbeats 4000000 in
theorem wX10_areFacts_0 {p : Program} {l : Launch} {e : Env} {s : State} {m : MethodId} {args : Array Value} {below : List Frame} {meth : Method} {c : Code} {E : GE} {res : Int32} (hc : GM E p s m args meth c RX10 cX10_areFacts 1 (some .boolean)) : ∀ (S : GS) (a0 : Int32) (H : Heap) (locs : List Loc) (ls : Array Slot), lv_has ls 1 [(0, .int a0)] → GX E S H locs → fX10_areFacts S a0 = some res → W p l e rmX10_areFacts s m args below meth c H locs 0 0 (gZ E below args s (some (.int res)) S) (F0 m 0 ls []) := by
  obtain ⟨hx, hb, -, -, -, hown, hts, -, -⟩ := id hc
  intro S a0 H locs ls hl hG h
  unfold fX10_areFacts at h
  refine lv_iload_n hx hb dX10_areFacts_0 rfl (lv_at hl 0 rfl) ?_
  refine lv_if_lt (tgt := 15) hx hb dX10_areFacts_1 (by decide) (fun c1 => ?_) (fun c1 => ?_)
  · have h := g_pos c1 h
    refine lv_iconst (v := (0 : Int32)) hx hb dX10_areFacts_15 (by decide) ?_
    exact g_zretp hc hG (Or.inl rfl) dX10_areFacts_16 h
  · have h := g_neg c1 h
    refine lv_iload_n hx hb dX10_areFacts_4 rfl (lv_at hl 0 rfl) ?_
    refine lv_sipush (v := (1023 : Int32)) hx hb dX10_areFacts_5 (by decide) ?_
    refine lv_icmp_gt (tgt := 15) hx hb dX10_areFacts_8 (by decide) (fun c2 => ?_) (fun c2 => ?_)
    · have h := g_pos c2 h
      refine lv_iconst (v := (0 : Int32)) hx hb dX10_areFacts_15 (by decide) ?_
      exact g_zretp hc hG (Or.inl rfl) dX10_areFacts_16 h
    · have h := g_neg c2 h
      refine lv_iconst (v := (1 : Int32)) hx hb dX10_areFacts_11 (by decide) ?_
      refine lv_goto (tgt := 16) hx hb dX10_areFacts_12 (by decide) ?_
      exact g_zretp hc hG (Or.inr rfl) dX10_areFacts_16 h
theorem mX10_areFacts (l : Launch) (E : GE) {S : GS} {a0 : Int32} {res : Int32} (h : fX10_areFacts S a0 = some res) : gMet l E yX10_areFacts cX10_areFacts 1 (some .boolean) rmX10_areFacts [.int a0] S (some (.int res)) S :=
  g_met (by decide) (Nat.le_of_ble_eq_true rfl) rfl fun p e s m below meth c H ls hc hG hl => wX10_areFacts_0 hc S a0 H [] ls hl hG h
abbrev rmX10_kase : Room := { frames := 1, cells := 0, slots := 0, locals := 26 }
def fX10_kase (S : GS) (a1 : Int32) (a2 : Int32) (a3 : Int32) (a4 : Int32) : Option (Int32 × GS) := gbv (fX10_isCourt S a1) fun r2 => (if r2 = 0 then (some ((-1 : Int32), S)) else (if a2 < 0 then (some ((-1 : Int32), S)) else (if (S.1 0 2) < a2 then (some ((-1 : Int32), S)) else (if a3 < (1 : Int32) then (some ((-1 : Int32), S)) else (if (3 : Int32) < a3 then (some ((-1 : Int32), S)) else gbv (fX10_areFacts S a4) fun r9 => (if r9 = 0 then (some ((-1 : Int32), S)) else gbd (fX0_add S a1 a2 a3 a4 (S.1 0 2)) fun r12 S13 => (some (r12, S13))))))))
set_option maxRecDepth 100000 in
set_option maxHeartbeats 4000000 in
theorem wX10_kase_0 {p : Program} {l : Launch} {e : Env} {s : State} {m : MethodId} {args : Array Value} {below : List Frame} {meth : Method} {c : Code} {E : GE} {res : (Int32 × GS)} (hc : GM E p s m args meth c RX10 cX10_kase 5 (some .int)) : ∀ (S : GS) (a1 : Int32) (a2 : Int32) (a3 : Int32) (a4 : Int32) (H : Heap) (locs : List Loc) (ls : Array Slot), lv_has ls 5 [(0, gR E 0), (1, .int a1), (2, .int a2), (3, .int a3), (4, .int a4)] → GX E S H locs → fX10_kase S a1 a2 a3 a4 = some res → W p l e rmX10_kase s m args below meth c H locs 0 0 (gZ E below args s (some (.int res.1)) res.2) (F0 m 0 ls []) := by
  obtain ⟨hx, hb, -, -, -, hown, hts, -, -⟩ := id hc
  intro S a1 a2 a3 a4 H locs ls hl hG h
  unfold fX10_kase at h
  refine lv_aload_n hx hb dX10_kase_0 rfl (lv_at hl 0 rfl) ?_
  refine lv_iload_n hx hb dX10_kase_1 rfl (lv_at hl 1 rfl) ?_
  obtain ⟨r2, hm1, h⟩ := g_bv h
  refine g_callVi (As := [.int a1]) hc hG (mX10_isCourt l E hm1) mlX10_127 mcX10_isCourt miX10_isCourt rfl rfl rfl rfl hl.1 rfl rfl ⟨by decide, by decide⟩ (Nat.le_of_ble_eq_true rfl) ⟨by decide, by decide⟩ dX10_kase_2 rfl (fun H locs hG => ?_)
  refine lv_if_eq (tgt := 38) hx hb dX10_kase_5 (by decide) (fun c3 => ?_) (fun c3 => ?_)
  · have h := g_pos c3 h
    refine lv_iconst (v := (-1 : Int32)) hx hb dX10_kase_38 (by decide) ?_
    exact g_iret hc hG dX10_kase_39 h
  · have h := g_neg c3 h
    refine lv_iload_n hx hb dX10_kase_8 rfl (lv_at hl 2 rfl) ?_
    refine lv_if_lt (tgt := 38) hx hb dX10_kase_9 (by decide) (fun c4 => ?_) (fun c4 => ?_)
    · have h := g_pos c4 h
      refine lv_iconst (v := (-1 : Int32)) hx hb dX10_kase_38 (by decide) ?_
      exact g_iret hc hG dX10_kase_39 h
    · have h := g_neg c4 h
      refine lv_iload_n hx hb dX10_kase_12 rfl (lv_at hl 2 rfl) ?_
      refine lv_aload_n hx hb dX10_kase_13 rfl (lv_at hl 0 rfl) ?_
      refine g_getI hc hG 0 flX10_106 rfl rfl dX10_kase_14 ?_
      refine lv_icmp_gt (tgt := 38) hx hb dX10_kase_17 (by decide) (fun c5 => ?_) (fun c5 => ?_)
      · have h := g_pos c5 h
        refine lv_iconst (v := (-1 : Int32)) hx hb dX10_kase_38 (by decide) ?_
        exact g_iret hc hG dX10_kase_39 h
      · have h := g_neg c5 h
        refine lv_iload_n hx hb dX10_kase_20 rfl (lv_at hl 3 rfl) ?_
        refine lv_iconst (v := (1 : Int32)) hx hb dX10_kase_21 (by decide) ?_
        refine lv_icmp_lt (tgt := 38) hx hb dX10_kase_22 (by decide) (fun c6 => ?_) (fun c6 => ?_)
        · have h := g_pos c6 h
          refine lv_iconst (v := (-1 : Int32)) hx hb dX10_kase_38 (by decide) ?_
          exact g_iret hc hG dX10_kase_39 h
        · have h := g_neg c6 h
          refine lv_iload_n hx hb dX10_kase_25 rfl (lv_at hl 3 rfl) ?_
          refine lv_iconst (v := (3 : Int32)) hx hb dX10_kase_26 (by decide) ?_
          refine lv_icmp_gt (tgt := 38) hx hb dX10_kase_27 (by decide) (fun c7 => ?_) (fun c7 => ?_)
          · have h := g_pos c7 h
            refine lv_iconst (v := (-1 : Int32)) hx hb dX10_kase_38 (by decide) ?_
            exact g_iret hc hG dX10_kase_39 h
          · have h := g_neg c7 h
            refine lv_iload hx hb dX10_kase_30 (lv_at hl 4 rfl) ?_
            obtain ⟨r9, hm8, h⟩ := g_bv h
            refine g_callSi (As := [.int a4]) hc hG (mX10_areFacts l E hm8) mlX10_130 mcX10_areFacts msX10_areFacts rfl hl.1 rfl rfl ⟨by decide, by decide⟩ (Nat.le_of_ble_eq_true rfl) ⟨by decide, by decide⟩ dX10_kase_32 rfl (fun H locs hG => ?_)
            refine lv_if_ne (tgt := 40) hx hb dX10_kase_35 (by decide) (fun c10 => ?_) (fun c10 => ?_)
            · have h := g_neg c10 h
              refine lv_aload_n hx hb dX10_kase_40 rfl (lv_at hl 0 rfl) ?_
              refine g_getR hc hG 0 7 flX10_30 rfl rfl rfl dX10_kase_41 ?_
              refine lv_iload_n hx hb dX10_kase_44 rfl (lv_at hl 1 rfl) ?_
              refine lv_iload_n hx hb dX10_kase_45 rfl (lv_at hl 2 rfl) ?_
              refine lv_iload_n hx hb dX10_kase_46 rfl (lv_at hl 3 rfl) ?_
              refine lv_iload hx hb dX10_kase_47 (lv_at hl 4 rfl) ?_
              refine lv_aload_n hx hb dX10_kase_49 rfl (lv_at hl 0 rfl) ?_
              refine g_getI hc hG 0 flX10_106 rfl rfl dX10_kase_50 ?_
              obtain ⟨r12, S13, hm11, h⟩ := g_bd h
              refine g_callVi (As := [.int a1, .int a2, .int a3, .int a4, .int (S.1 0 2)]) hc hG (mX0_add l E hm11) mlX10_133 mcX0_add miX0_add rfl rfl rfl rfl hl.1 rfl rfl ⟨by decide, by decide⟩ (Nat.le_of_ble_eq_true rfl) ⟨by decide, by decide⟩ dX10_kase_53 rfl (fun H locs hG => ?_)
              exact g_iret hc hG dX10_kase_56 h
            · have h := g_pos c10 h
              refine lv_iconst (v := (-1 : Int32)) hx hb dX10_kase_38 (by decide) ?_
              exact g_iret hc hG dX10_kase_39 h
theorem mX10_kase (l : Launch) (E : GE) {S : GS} {a1 : Int32} {a2 : Int32} {a3 : Int32} {a4 : Int32} {res : (Int32 × GS)} (h : fX10_kase S a1 a2 a3 a4 = some res) : gMet l E yX10_kase cX10_kase 5 (some .int) rmX10_kase [gR E 0, .int a1, .int a2, .int a3, .int a4] S (some (.int res.1)) res.2 :=
  g_met (by decide) (Nat.le_of_ble_eq_true rfl) rfl fun p e s m below meth c H ls hc hG hl => wX10_kase_0 hc S a1 a2 a3 a4 H [] ls hl hG h
abbrev rmX10_isCase : Room := { frames := 0, cells := 0, slots := 0, locals := 0 }
def fX10_isCase (S : GS) (a1 : Int32) : Option Int32 := (if a1 < 0 then (some (0 : Int32)) else (if (S.1 7 0) ≤ a1 then (some (0 : Int32)) else (some (1 : Int32))))
set_option maxRecDepth 100000 in
set_option maxHeartbeats 4000000 in
theorem wX10_isCase_0 {p : Program} {l : Launch} {e : Env} {s : State} {m : MethodId} {args : Array Value} {below : List Frame} {meth : Method} {c : Code} {E : GE} {res : Int32} (hc : GM E p s m args meth c RX10 cX10_isCase 2 (some .boolean)) : ∀ (S : GS) (a1 : Int32) (H : Heap) (locs : List Loc) (ls : Array Slot), lv_has ls 2 [(0, gR E 0), (1, .int a1)] → GX E S H locs → fX10_isCase S a1 = some res → W p l e rmX10_isCase s m args below meth c H locs 0 0 (gZ E below args s (some (.int res)) S) (F0 m 0 ls []) := by
  obtain ⟨hx, hb, -, -, -, hown, hts, -, -⟩ := id hc
  intro S a1 H locs ls hl hG h
  unfold fX10_isCase at h
  refine lv_iload_n hx hb dX10_isCase_0 rfl (lv_at hl 1 rfl) ?_
  refine lv_if_lt (tgt := 19) hx hb dX10_isCase_1 (by decide) (fun c1 => ?_) (fun c1 => ?_)
  · have h := g_pos c1 h
    refine lv_iconst (v := (0 : Int32)) hx hb dX10_isCase_19 (by decide) ?_
    exact g_zretp hc hG (Or.inl rfl) dX10_isCase_20 h
  · have h := g_neg c1 h
    refine lv_iload_n hx hb dX10_isCase_4 rfl (lv_at hl 1 rfl) ?_
    refine lv_aload_n hx hb dX10_isCase_5 rfl (lv_at hl 0 rfl) ?_
    refine g_getR hc hG 0 7 flX10_30 rfl rfl rfl dX10_isCase_6 ?_
    refine g_getI hc hG 7 flX10_230 rfl rfl dX10_isCase_9 ?_
    refine lv_icmp_ge (tgt := 19) hx hb dX10_isCase_12 (by decide) (fun c2 => ?_) (fun c2 => ?_)
    · have h := g_pos c2 h
      refine lv_iconst (v := (0 : Int32)) hx hb dX10_isCase_19 (by decide) ?_
      exact g_zretp hc hG (Or.inl rfl) dX10_isCase_20 h
    · have h := g_neg c2 h
      refine lv_iconst (v := (1 : Int32)) hx hb dX10_isCase_15 (by decide) ?_
      refine lv_goto (tgt := 20) hx hb dX10_isCase_16 (by decide) ?_
      exact g_zretp hc hG (Or.inr rfl) dX10_isCase_20 h
theorem mX10_isCase (l : Launch) (E : GE) {S : GS} {a1 : Int32} {res : Int32} (h : fX10_isCase S a1 = some res) : gMet l E yX10_isCase cX10_isCase 2 (some .boolean) rmX10_isCase [gR E 0, .int a1] S (some (.int res)) S :=
  g_met (by decide) (Nat.le_of_ble_eq_true rfl) rfl fun p e s m below meth c H ls hc hG hl => wX10_isCase_0 hc S a1 H [] ls hl hG h
abbrev rmX10_holds : Room := { frames := 1, cells := 0, slots := 0, locals := 26 }
def fX10_holds_59 (S : GS) (t1 : Int32) (a1 : Int32) (a2 : Int32) (a3 : Int32) (a4 : Int32) : Option (Int32 × GS) := gbd (fX4_add S t1 (S.1 0 2) a1 a2 a3 a4) fun r2 S3 => (some (r2, S3))
set_option maxRecDepth 100000 in
set_option maxHeartbeats 4000000 in
theorem wX10_holds_59 {p : Program} {l : Launch} {e : Env} {s : State} {m : MethodId} {args : Array Value} {below : List Frame} {meth : Method} {c : Code} {E : GE} {res : (Int32 × GS)} (hc : GM E p s m args meth c RX10 cX10_holds 6 (some .int)) : ∀ (S : GS) (t1 : Int32) (a1 : Int32) (a2 : Int32) (a3 : Int32) (a4 : Int32) (H : Heap) (locs : List Loc) (ls : Array Slot), lv_has ls 6 [(0, gR E 0), (1, .int a1), (2, .int a2), (3, .int a3), (4, .int a4)] → GX E S H locs → fX10_holds_59 S t1 a1 a2 a3 a4 = some res → W p l e rmX10_holds s m args below meth c H locs 0 0 (gZ E below args s (some (.int res.1)) res.2) (F0 m 59 ls [.int t1, gR E 14]) := by
  obtain ⟨hx, hb, -, -, -, hown, hts, -, -⟩ := id hc
  intro S t1 a1 a2 a3 a4 H locs ls hl hG h
  unfold fX10_holds_59 at h
  refine lv_aload_n hx hb dX10_holds_59 rfl (lv_at hl 0 rfl) ?_
  refine g_getI hc hG 0 flX10_106 rfl rfl dX10_holds_60 ?_
  refine lv_iload_n hx hb dX10_holds_63 rfl (lv_at hl 1 rfl) ?_
  refine lv_iload_n hx hb dX10_holds_64 rfl (lv_at hl 2 rfl) ?_
  refine lv_iload_n hx hb dX10_holds_65 rfl (lv_at hl 3 rfl) ?_
  refine lv_iload hx hb dX10_holds_66 (lv_at hl 4 rfl) ?_
  obtain ⟨r2, S3, hm1, h⟩ := g_bd h
  refine g_callVi (As := [.int t1, .int (S.1 0 2), .int a1, .int a2, .int a3, .int a4]) hc hG (mX4_add l E hm1) mlX10_142 mcX4_add miX4_add rfl rfl rfl rfl hl.1 rfl rfl ⟨by decide, by decide⟩ (Nat.le_of_ble_eq_true rfl) ⟨by decide, by decide⟩ dX10_holds_68 rfl (fun H locs hG => ?_)
  exact g_iret hc hG dX10_holds_71 h
def fX10_holds (S : GS) (a1 : Int32) (a2 : Int32) (a3 : Int32) (a4 : Int32) (a5 : Int32) : Option (Int32 × GS) := gbv (fX10_isCase S a1) fun r2 => (if r2 = 0 then (some ((-1 : Int32), S)) else gbv (fX10_isPoint S a3) fun r5 => (if r5 = 0 then (some ((-1 : Int32), S)) else gbv (fX10_areFacts S a4) fun r8 => (if r8 = 0 then (some ((-1 : Int32), S)) else (if a2 < 0 then (some ((-1 : Int32), S)) else (if gib a1 32 = true then (if a2 < (S.1 10 a1.toNatClampNeg) then (if a5 = 0 then (fX10_holds_59 S (0 : Int32) a1 a2 a3 a4) else (fX10_holds_59 S (1 : Int32) a1 a2 a3 a4)) else (some ((-1 : Int32), S))) else none)))))
set_option maxRecDepth 100000 in
set_option maxHeartbeats 4000000 in
theorem wX10_holds_0 {p : Program} {l : Launch} {e : Env} {s : State} {m : MethodId} {args : Array Value} {below : List Frame} {meth : Method} {c : Code} {E : GE} {res : (Int32 × GS)} (hc : GM E p s m args meth c RX10 cX10_holds 6 (some .int)) : ∀ (S : GS) (a1 : Int32) (a2 : Int32) (a3 : Int32) (a4 : Int32) (a5 : Int32) (H : Heap) (locs : List Loc) (ls : Array Slot), lv_has ls 6 [(0, gR E 0), (1, .int a1), (2, .int a2), (3, .int a3), (4, .int a4), (5, .int a5)] → GX E S H locs → fX10_holds S a1 a2 a3 a4 a5 = some res → W p l e rmX10_holds s m args below meth c H locs 0 0 (gZ E below args s (some (.int res.1)) res.2) (F0 m 0 ls []) := by
  obtain ⟨hx, hb, -, -, -, hown, hts, -, -⟩ := id hc
  intro S a1 a2 a3 a4 a5 H locs ls hl hG h
  unfold fX10_holds at h
  refine lv_aload_n hx hb dX10_holds_0 rfl (lv_at hl 0 rfl) ?_
  refine lv_iload_n hx hb dX10_holds_1 rfl (lv_at hl 1 rfl) ?_
  obtain ⟨r2, hm1, h⟩ := g_bv h
  refine g_callVi (As := [.int a1]) hc hG (mX10_isCase l E hm1) mlX10_136 mcX10_isCase miX10_isCase rfl rfl rfl rfl hl.1 rfl rfl ⟨by decide, by decide⟩ (Nat.le_of_ble_eq_true rfl) ⟨by decide, by decide⟩ dX10_holds_2 rfl (fun H locs hG => ?_)
  refine lv_if_eq (tgt := 24) hx hb dX10_holds_5 (by decide) (fun c3 => ?_) (fun c3 => ?_)
  · have h := g_pos c3 h
    refine lv_iconst (v := (-1 : Int32)) hx hb dX10_holds_24 (by decide) ?_
    exact g_iret hc hG dX10_holds_25 h
  · have h := g_neg c3 h
    refine lv_aload_n hx hb dX10_holds_8 rfl (lv_at hl 0 rfl) ?_
    refine lv_iload_n hx hb dX10_holds_9 rfl (lv_at hl 3 rfl) ?_
    obtain ⟨r5, hm4, h⟩ := g_bv h
    refine g_callVi (As := [.int a3]) hc hG (mX10_isPoint l E hm4) mlX10_116 mcX10_isPoint miX10_isPoint rfl rfl rfl rfl hl.1 rfl rfl ⟨by decide, by decide⟩ (Nat.le_of_ble_eq_true rfl) ⟨by decide, by decide⟩ dX10_holds_10 rfl (fun H locs hG => ?_)
    refine lv_if_eq (tgt := 24) hx hb dX10_holds_13 (by decide) (fun c6 => ?_) (fun c6 => ?_)
    · have h := g_pos c6 h
      refine lv_iconst (v := (-1 : Int32)) hx hb dX10_holds_24 (by decide) ?_
      exact g_iret hc hG dX10_holds_25 h
    · have h := g_neg c6 h
      refine lv_iload hx hb dX10_holds_16 (lv_at hl 4 rfl) ?_
      obtain ⟨r8, hm7, h⟩ := g_bv h
      refine g_callSi (As := [.int a4]) hc hG (mX10_areFacts l E hm7) mlX10_130 mcX10_areFacts msX10_areFacts rfl hl.1 rfl rfl ⟨by decide, by decide⟩ (Nat.le_of_ble_eq_true rfl) ⟨by decide, by decide⟩ dX10_holds_18 rfl (fun H locs hG => ?_)
      refine lv_if_ne (tgt := 26) hx hb dX10_holds_21 (by decide) (fun c9 => ?_) (fun c9 => ?_)
      · have h := g_neg c9 h
        refine lv_iload_n hx hb dX10_holds_26 rfl (lv_at hl 2 rfl) ?_
        refine lv_if_lt (tgt := 43) hx hb dX10_holds_27 (by decide) (fun c10 => ?_) (fun c10 => ?_)
        · have h := g_pos c10 h
          refine lv_iconst (v := (-1 : Int32)) hx hb dX10_holds_43 (by decide) ?_
          exact g_iret hc hG dX10_holds_44 h
        · have h := g_neg c10 h
          refine lv_iload_n hx hb dX10_holds_30 rfl (lv_at hl 2 rfl) ?_
          refine lv_aload_n hx hb dX10_holds_31 rfl (lv_at hl 0 rfl) ?_
          refine g_getR hc hG 0 7 flX10_30 rfl rfl rfl dX10_holds_32 ?_
          refine g_getR hc hG 7 10 flX10_139 rfl rfl rfl dX10_holds_35 ?_
          refine lv_iload_n hx hb dX10_holds_38 rfl (lv_at hl 1 rfl) ?_
          obtain ⟨hi11, h⟩ := g_if h
          refine g_iald hc hG 10 32 (a1.toNatClampNeg) rfl rfl hi11 rfl dX10_holds_39 ?_
          refine lv_icmp_lt (tgt := 45) hx hb dX10_holds_40 (by decide) (fun c12 => ?_) (fun c12 => ?_)
          · have h := g_pos c12 h
            refine lv_aload_n hx hb dX10_holds_45 rfl (lv_at hl 0 rfl) ?_
            refine g_getR hc hG 0 14 flX10_37 rfl rfl rfl dX10_holds_46 ?_
            refine lv_iload hx hb dX10_holds_49 (lv_at hl 5 rfl) ?_
            refine lv_if_eq (tgt := 58) hx hb dX10_holds_51 (by decide) (fun c13 => ?_) (fun c13 => ?_)
            · have h := g_pos c13 h
              refine lv_iconst (v := (0 : Int32)) hx hb dX10_holds_58 (by decide) ?_
              exact wX10_holds_59 hc S (0 : Int32) a1 a2 a3 a4 _ _ _ (lv_sub hl [0, 1, 2, 3, 4] rfl) hG h
            · have h := g_neg c13 h
              refine lv_iconst (v := (1 : Int32)) hx hb dX10_holds_54 (by decide) ?_
              refine lv_goto (tgt := 59) hx hb dX10_holds_55 (by decide) ?_
              exact wX10_holds_59 hc S (1 : Int32) a1 a2 a3 a4 _ _ _ (lv_sub hl [0, 1, 2, 3, 4] rfl) hG h
          · have h := g_neg c12 h
            refine lv_iconst (v := (-1 : Int32)) hx hb dX10_holds_43 (by decide) ?_
            exact g_iret hc hG dX10_holds_44 h
      · have h := g_pos c9 h
        refine lv_iconst (v := (-1 : Int32)) hx hb dX10_holds_24 (by decide) ?_
        exact g_iret hc hG dX10_holds_25 h
theorem mX10_holds (l : Launch) (E : GE) {S : GS} {a1 : Int32} {a2 : Int32} {a3 : Int32} {a4 : Int32} {a5 : Int32} {res : (Int32 × GS)} (h : fX10_holds S a1 a2 a3 a4 a5 = some res) : gMet l E yX10_holds cX10_holds 6 (some .int) rmX10_holds [gR E 0, .int a1, .int a2, .int a3, .int a4, .int a5] S (some (.int res.1)) res.2 :=
  g_met (by decide) (Nat.le_of_ble_eq_true rfl) rfl fun p e s m below meth c H ls hc hG hl => wX10_holds_0 hc S a1 a2 a3 a4 a5 H [] ls hl hG h
abbrev rmX10_treats : Room := { frames := 1, cells := 0, slots := 0, locals := 26 }
def fX10_treats_78 (S : GS) (t1 : Int32) (t2 : Int32) (t3 : Int32) (t4 : Int32) (t5 : Int32) : Option (Int32 × GS) := gbd (fX4_add S t1 t2 t3 t4 t5 (0 : Int32)) fun r2 S3 => (some (r2, S3))
set_option maxRecDepth 100000 in
set_option maxHeartbeats 4000000 in
theorem wX10_treats_78 {p : Program} {l : Launch} {e : Env} {s : State} {m : MethodId} {args : Array Value} {below : List Frame} {meth : Method} {c : Code} {E : GE} {res : (Int32 × GS)} (hc : GM E p s m args meth c RX10 cX10_treats 5 (some .int)) : ∀ (S : GS) (t1 : Int32) (t2 : Int32) (t3 : Int32) (t4 : Int32) (t5 : Int32) (H : Heap) (locs : List Loc) (ls : Array Slot), lv_has ls 5 [] → GX E S H locs → fX10_treats_78 S t1 t2 t3 t4 t5 = some res → W p l e rmX10_treats s m args below meth c H locs 0 0 (gZ E below args s (some (.int res.1)) res.2) (F0 m 78 ls [.int t5, .int t4, .int t3, .int t2, .int t1, gR E 14]) := by
  obtain ⟨hx, hb, -, -, -, hown, hts, -, -⟩ := id hc
  intro S t1 t2 t3 t4 t5 H locs ls hl hG h
  unfold fX10_treats_78 at h
  refine lv_iconst (v := (0 : Int32)) hx hb dX10_treats_78 (by decide) ?_
  obtain ⟨r2, S3, hm1, h⟩ := g_bd h
  refine g_callVi (As := [.int t1, .int t2, .int t3, .int t4, .int t5, .int (0 : Int32)]) hc hG (mX4_add l E hm1) mlX10_142 mcX4_add miX4_add rfl rfl rfl rfl hl.1 rfl rfl ⟨by decide, by decide⟩ (Nat.le_of_ble_eq_true rfl) ⟨by decide, by decide⟩ dX10_treats_79 rfl (fun H locs hG => ?_)
  exact g_iret hc hG dX10_treats_82 h
def fX10_treats_56 (S : GS) (a1 : Int32) (a2 : Int32) (a3 : Int32) (a4 : Int32) : Option (Int32 × GS) := (if a1 = (4 : Int32) then (fX10_treats_78 S a1 (S.1 0 2) a2 a3 (-1 : Int32)) else (fX10_treats_78 S a1 (S.1 0 2) a2 a3 a4))
set_option maxRecDepth 100000 in
set_option maxHeartbeats 4000000 in
theorem wX10_treats_56 {p : Program} {l : Launch} {e : Env} {s : State} {m : MethodId} {args : Array Value} {below : List Frame} {meth : Method} {c : Code} {E : GE} {res : (Int32 × GS)} (hc : GM E p s m args meth c RX10 cX10_treats 5 (some .int)) : ∀ (S : GS) (a1 : Int32) (a2 : Int32) (a3 : Int32) (a4 : Int32) (H : Heap) (locs : List Loc) (ls : Array Slot), lv_has ls 5 [(0, gR E 0), (1, .int a1), (2, .int a2), (3, .int a3), (4, .int a4)] → GX E S H locs → fX10_treats_56 S a1 a2 a3 a4 = some res → W p l e rmX10_treats s m args below meth c H locs 0 0 (gZ E below args s (some (.int res.1)) res.2) (F0 m 56 ls []) := by
  obtain ⟨hx, hb, -, -, -, hown, hts, -, -⟩ := id hc
  intro S a1 a2 a3 a4 H locs ls hl hG h
  unfold fX10_treats_56 at h
  refine lv_aload_n hx hb dX10_treats_56 rfl (lv_at hl 0 rfl) ?_
  refine g_getR hc hG 0 14 flX10_37 rfl rfl rfl dX10_treats_57 ?_
  refine lv_iload_n hx hb dX10_treats_60 rfl (lv_at hl 1 rfl) ?_
  refine lv_aload_n hx hb dX10_treats_61 rfl (lv_at hl 0 rfl) ?_
  refine g_getI hc hG 0 flX10_106 rfl rfl dX10_treats_62 ?_
  refine lv_iload_n hx hb dX10_treats_65 rfl (lv_at hl 2 rfl) ?_
  refine lv_iload_n hx hb dX10_treats_66 rfl (lv_at hl 3 rfl) ?_
  refine lv_iload_n hx hb dX10_treats_67 rfl (lv_at hl 1 rfl) ?_
  refine lv_iconst (v := (4 : Int32)) hx hb dX10_treats_68 (by decide) ?_
  refine lv_icmp_ne (tgt := 76) hx hb dX10_treats_69 (by decide) (fun c1 => ?_) (fun c1 => ?_)
  · have h := g_neg c1 h
    refine lv_iload hx hb dX10_treats_76 (lv_at hl 4 rfl) ?_
    exact wX10_treats_78 hc S a1 (S.1 0 2) a2 a3 a4 _ _ _ (lv_sub hl [] rfl) hG h
  · have h := g_pos c1 h
    refine lv_iconst (v := (-1 : Int32)) hx hb dX10_treats_72 (by decide) ?_
    refine lv_goto (tgt := 78) hx hb dX10_treats_73 (by decide) ?_
    exact wX10_treats_78 hc S a1 (S.1 0 2) a2 a3 (-1 : Int32) _ _ _ (lv_sub hl [] rfl) hG h
def fX10_treats (S : GS) (a1 : Int32) (a2 : Int32) (a3 : Int32) (a4 : Int32) : Option (Int32 × GS) := (if a1 < (2 : Int32) then (some ((-1 : Int32), S)) else (if (4 : Int32) < a1 then (some ((-1 : Int32), S)) else gbv (fX10_isCase S a2) fun r4 => (if r4 = 0 then (some ((-1 : Int32), S)) else gbv (fX10_isCase S a3) fun r7 => (if r7 = 0 then (some ((-1 : Int32), S)) else gbv (fX0_isLater S a2 a3) fun r10 => (if r10 = 0 then (some ((-1 : Int32), S)) else (if a1 = (4 : Int32) then (fX10_treats_56 S a1 a2 a3 a4) else gbv (fX10_isPoint S a4) fun r14 => (if r14 = 0 then (some ((-1 : Int32), S)) else (fX10_treats_56 S a1 a2 a3 a4))))))))
set_option maxRecDepth 100000 in
set_option maxHeartbeats 4000000 in
theorem wX10_treats_0 {p : Program} {l : Launch} {e : Env} {s : State} {m : MethodId} {args : Array Value} {below : List Frame} {meth : Method} {c : Code} {E : GE} {res : (Int32 × GS)} (hc : GM E p s m args meth c RX10 cX10_treats 5 (some .int)) : ∀ (S : GS) (a1 : Int32) (a2 : Int32) (a3 : Int32) (a4 : Int32) (H : Heap) (locs : List Loc) (ls : Array Slot), lv_has ls 5 [(0, gR E 0), (1, .int a1), (2, .int a2), (3, .int a3), (4, .int a4)] → GX E S H locs → fX10_treats S a1 a2 a3 a4 = some res → W p l e rmX10_treats s m args below meth c H locs 0 0 (gZ E below args s (some (.int res.1)) res.2) (F0 m 0 ls []) := by
  obtain ⟨hx, hb, -, -, -, hown, hts, -, -⟩ := id hc
  intro S a1 a2 a3 a4 H locs ls hl hG h
  unfold fX10_treats at h
  refine lv_iload_n hx hb dX10_treats_0 rfl (lv_at hl 1 rfl) ?_
  refine lv_iconst (v := (2 : Int32)) hx hb dX10_treats_1 (by decide) ?_
  refine lv_icmp_lt (tgt := 26) hx hb dX10_treats_2 (by decide) (fun c1 => ?_) (fun c1 => ?_)
  · have h := g_pos c1 h
    refine lv_iconst (v := (-1 : Int32)) hx hb dX10_treats_26 (by decide) ?_
    exact g_iret hc hG dX10_treats_27 h
  · have h := g_neg c1 h
    refine lv_iload_n hx hb dX10_treats_5 rfl (lv_at hl 1 rfl) ?_
    refine lv_iconst (v := (4 : Int32)) hx hb dX10_treats_6 (by decide) ?_
    refine lv_icmp_gt (tgt := 26) hx hb dX10_treats_7 (by decide) (fun c2 => ?_) (fun c2 => ?_)
    · have h := g_pos c2 h
      refine lv_iconst (v := (-1 : Int32)) hx hb dX10_treats_26 (by decide) ?_
      exact g_iret hc hG dX10_treats_27 h
    · have h := g_neg c2 h
      refine lv_aload_n hx hb dX10_treats_10 rfl (lv_at hl 0 rfl) ?_
      refine lv_iload_n hx hb dX10_treats_11 rfl (lv_at hl 2 rfl) ?_
      obtain ⟨r4, hm3, h⟩ := g_bv h
      refine g_callVi (As := [.int a2]) hc hG (mX10_isCase l E hm3) mlX10_136 mcX10_isCase miX10_isCase rfl rfl rfl rfl hl.1 rfl rfl ⟨by decide, by decide⟩ (Nat.le_of_ble_eq_true rfl) ⟨by decide, by decide⟩ dX10_treats_12 rfl (fun H locs hG => ?_)
      refine lv_if_eq (tgt := 26) hx hb dX10_treats_15 (by decide) (fun c5 => ?_) (fun c5 => ?_)
      · have h := g_pos c5 h
        refine lv_iconst (v := (-1 : Int32)) hx hb dX10_treats_26 (by decide) ?_
        exact g_iret hc hG dX10_treats_27 h
      · have h := g_neg c5 h
        refine lv_aload_n hx hb dX10_treats_18 rfl (lv_at hl 0 rfl) ?_
        refine lv_iload_n hx hb dX10_treats_19 rfl (lv_at hl 3 rfl) ?_
        obtain ⟨r7, hm6, h⟩ := g_bv h
        refine g_callVi (As := [.int a3]) hc hG (mX10_isCase l E hm6) mlX10_136 mcX10_isCase miX10_isCase rfl rfl rfl rfl hl.1 rfl rfl ⟨by decide, by decide⟩ (Nat.le_of_ble_eq_true rfl) ⟨by decide, by decide⟩ dX10_treats_20 rfl (fun H locs hG => ?_)
        refine lv_if_ne (tgt := 28) hx hb dX10_treats_23 (by decide) (fun c8 => ?_) (fun c8 => ?_)
        · have h := g_neg c8 h
          refine lv_aload_n hx hb dX10_treats_28 rfl (lv_at hl 0 rfl) ?_
          refine g_getR hc hG 0 7 flX10_30 rfl rfl rfl dX10_treats_29 ?_
          refine lv_iload_n hx hb dX10_treats_32 rfl (lv_at hl 2 rfl) ?_
          refine lv_iload_n hx hb dX10_treats_33 rfl (lv_at hl 3 rfl) ?_
          obtain ⟨r10, hm9, h⟩ := g_bv h
          refine g_callVi (As := [.int a2, .int a3]) hc hG (mX0_isLater l E hm9) mlX10_145 mcX0_isLater miX0_isLater rfl rfl rfl rfl hl.1 rfl rfl ⟨by decide, by decide⟩ (Nat.le_of_ble_eq_true rfl) ⟨by decide, by decide⟩ dX10_treats_34 rfl (fun H locs hG => ?_)
          refine lv_if_eq (tgt := 54) hx hb dX10_treats_37 (by decide) (fun c11 => ?_) (fun c11 => ?_)
          · have h := g_pos c11 h
            refine lv_iconst (v := (-1 : Int32)) hx hb dX10_treats_54 (by decide) ?_
            exact g_iret hc hG dX10_treats_55 h
          · have h := g_neg c11 h
            refine lv_iload_n hx hb dX10_treats_40 rfl (lv_at hl 1 rfl) ?_
            refine lv_iconst (v := (4 : Int32)) hx hb dX10_treats_41 (by decide) ?_
            refine lv_icmp_eq (tgt := 56) hx hb dX10_treats_42 (by decide) (fun c12 => ?_) (fun c12 => ?_)
            · have h := g_pos c12 h
              exact wX10_treats_56 hc S a1 a2 a3 a4 _ _ _ (lv_sub hl [0, 1, 2, 3, 4] rfl) hG h
            · have h := g_neg c12 h
              refine lv_aload_n hx hb dX10_treats_45 rfl (lv_at hl 0 rfl) ?_
              refine lv_iload hx hb dX10_treats_46 (lv_at hl 4 rfl) ?_
              obtain ⟨r14, hm13, h⟩ := g_bv h
              refine g_callVi (As := [.int a4]) hc hG (mX10_isPoint l E hm13) mlX10_116 mcX10_isPoint miX10_isPoint rfl rfl rfl rfl hl.1 rfl rfl ⟨by decide, by decide⟩ (Nat.le_of_ble_eq_true rfl) ⟨by decide, by decide⟩ dX10_treats_48 rfl (fun H locs hG => ?_)
              refine lv_if_ne (tgt := 56) hx hb dX10_treats_51 (by decide) (fun c15 => ?_) (fun c15 => ?_)
              · have h := g_neg c15 h
                exact wX10_treats_56 hc S a1 a2 a3 a4 _ _ _ (lv_sub hl [0, 1, 2, 3, 4] rfl) hG h
              · have h := g_pos c15 h
                refine lv_iconst (v := (-1 : Int32)) hx hb dX10_treats_54 (by decide) ?_
                exact g_iret hc hG dX10_treats_55 h
        · have h := g_pos c8 h
          refine lv_iconst (v := (-1 : Int32)) hx hb dX10_treats_26 (by decide) ?_
          exact g_iret hc hG dX10_treats_27 h
theorem mX10_treats (l : Launch) (E : GE) {S : GS} {a1 : Int32} {a2 : Int32} {a3 : Int32} {a4 : Int32} {res : (Int32 × GS)} (h : fX10_treats S a1 a2 a3 a4 = some res) : gMet l E yX10_treats cX10_treats 5 (some .int) rmX10_treats [gR E 0, .int a1, .int a2, .int a3, .int a4] S (some (.int res.1)) res.2 :=
  g_met (by decide) (Nat.le_of_ble_eq_true rfl) rfl fun p e s m below meth c H ls hc hG hl => wX10_treats_0 hc S a1 a2 a3 a4 H [] ls hl hG h
abbrev rmX10_statute : Room := { frames := 1, cells := 0, slots := 0, locals := 26 }
def fX10_statute_31 (S : GS) (t1 : Int32) (a1 : Int32) (a2 : Int32) : Option (Int32 × GS) := gbd (fX4_add S t1 (S.1 0 2) (-1 : Int32) (-1 : Int32) a1 a2) fun r2 S3 => (some (r2, S3))
set_option maxRecDepth 100000 in
set_option maxHeartbeats 4000000 in
theorem wX10_statute_31 {p : Program} {l : Launch} {e : Env} {s : State} {m : MethodId} {args : Array Value} {below : List Frame} {meth : Method} {c : Code} {E : GE} {res : (Int32 × GS)} (hc : GM E p s m args meth c RX10 cX10_statute 4 (some .int)) : ∀ (S : GS) (t1 : Int32) (a1 : Int32) (a2 : Int32) (H : Heap) (locs : List Loc) (ls : Array Slot), lv_has ls 4 [(0, gR E 0), (1, .int a1), (2, .int a2)] → GX E S H locs → fX10_statute_31 S t1 a1 a2 = some res → W p l e rmX10_statute s m args below meth c H locs 0 0 (gZ E below args s (some (.int res.1)) res.2) (F0 m 31 ls [.int t1, gR E 14]) := by
  obtain ⟨hx, hb, -, -, -, hown, hts, -, -⟩ := id hc
  intro S t1 a1 a2 H locs ls hl hG h
  unfold fX10_statute_31 at h
  refine lv_aload_n hx hb dX10_statute_31 rfl (lv_at hl 0 rfl) ?_
  refine g_getI hc hG 0 flX10_106 rfl rfl dX10_statute_32 ?_
  refine lv_iconst (v := (-1 : Int32)) hx hb dX10_statute_35 (by decide) ?_
  refine lv_iconst (v := (-1 : Int32)) hx hb dX10_statute_36 (by decide) ?_
  refine lv_iload_n hx hb dX10_statute_37 rfl (lv_at hl 1 rfl) ?_
  refine lv_iload_n hx hb dX10_statute_38 rfl (lv_at hl 2 rfl) ?_
  obtain ⟨r2, S3, hm1, h⟩ := g_bd h
  refine g_callVi (As := [.int t1, .int (S.1 0 2), .int (-1 : Int32), .int (-1 : Int32), .int a1, .int a2]) hc hG (mX4_add l E hm1) mlX10_142 mcX4_add miX4_add rfl rfl rfl rfl hl.1 rfl rfl ⟨by decide, by decide⟩ (Nat.le_of_ble_eq_true rfl) ⟨by decide, by decide⟩ dX10_statute_39 rfl (fun H locs hG => ?_)
  exact g_iret hc hG dX10_statute_42 h
def fX10_statute (S : GS) (a1 : Int32) (a2 : Int32) (a3 : Int32) : Option (Int32 × GS) := gbv (fX10_isPoint S a1) fun r2 => (if r2 = 0 then (some ((-1 : Int32), S)) else gbv (fX10_isDay S a2) fun r5 => (if r5 = 0 then (some ((-1 : Int32), S)) else (if a3 = 0 then (fX10_statute_31 S (5 : Int32) a1 a2) else (fX10_statute_31 S (6 : Int32) a1 a2))))
set_option maxRecDepth 100000 in
set_option maxHeartbeats 4000000 in
theorem wX10_statute_0 {p : Program} {l : Launch} {e : Env} {s : State} {m : MethodId} {args : Array Value} {below : List Frame} {meth : Method} {c : Code} {E : GE} {res : (Int32 × GS)} (hc : GM E p s m args meth c RX10 cX10_statute 4 (some .int)) : ∀ (S : GS) (a1 : Int32) (a2 : Int32) (a3 : Int32) (H : Heap) (locs : List Loc) (ls : Array Slot), lv_has ls 4 [(0, gR E 0), (1, .int a1), (2, .int a2), (3, .int a3)] → GX E S H locs → fX10_statute S a1 a2 a3 = some res → W p l e rmX10_statute s m args below meth c H locs 0 0 (gZ E below args s (some (.int res.1)) res.2) (F0 m 0 ls []) := by
  obtain ⟨hx, hb, -, -, -, hown, hts, -, -⟩ := id hc
  intro S a1 a2 a3 H locs ls hl hG h
  unfold fX10_statute at h
  refine lv_aload_n hx hb dX10_statute_0 rfl (lv_at hl 0 rfl) ?_
  refine lv_iload_n hx hb dX10_statute_1 rfl (lv_at hl 1 rfl) ?_
  obtain ⟨r2, hm1, h⟩ := g_bv h
  refine g_callVi (As := [.int a1]) hc hG (mX10_isPoint l E hm1) mlX10_116 mcX10_isPoint miX10_isPoint rfl rfl rfl rfl hl.1 rfl rfl ⟨by decide, by decide⟩ (Nat.le_of_ble_eq_true rfl) ⟨by decide, by decide⟩ dX10_statute_2 rfl (fun H locs hG => ?_)
  refine lv_if_eq (tgt := 15) hx hb dX10_statute_5 (by decide) (fun c3 => ?_) (fun c3 => ?_)
  · have h := g_pos c3 h
    refine lv_iconst (v := (-1 : Int32)) hx hb dX10_statute_15 (by decide) ?_
    exact g_iret hc hG dX10_statute_16 h
  · have h := g_neg c3 h
    refine lv_iload_n hx hb dX10_statute_8 rfl (lv_at hl 2 rfl) ?_
    obtain ⟨r5, hm4, h⟩ := g_bv h
    refine g_callSi (As := [.int a2]) hc hG (mX10_isDay l E hm4) mlX10_102 mcX10_isDay msX10_isDay rfl hl.1 rfl rfl ⟨by decide, by decide⟩ (Nat.le_of_ble_eq_true rfl) ⟨by decide, by decide⟩ dX10_statute_9 rfl (fun H locs hG => ?_)
    refine lv_if_ne (tgt := 17) hx hb dX10_statute_12 (by decide) (fun c6 => ?_) (fun c6 => ?_)
    · have h := g_neg c6 h
      refine lv_aload_n hx hb dX10_statute_17 rfl (lv_at hl 0 rfl) ?_
      refine g_getR hc hG 0 14 flX10_37 rfl rfl rfl dX10_statute_18 ?_
      refine lv_iload_n hx hb dX10_statute_21 rfl (lv_at hl 3 rfl) ?_
      refine lv_if_eq (tgt := 30) hx hb dX10_statute_22 (by decide) (fun c7 => ?_) (fun c7 => ?_)
      · have h := g_pos c7 h
        refine lv_iconst (v := (5 : Int32)) hx hb dX10_statute_30 (by decide) ?_
        exact wX10_statute_31 hc S (5 : Int32) a1 a2 _ _ _ (lv_sub hl [0, 1, 2] rfl) hG h
      · have h := g_neg c7 h
        refine lv_bipush (v := (6 : Int32)) hx hb dX10_statute_25 (by decide) ?_
        refine lv_goto (tgt := 31) hx hb dX10_statute_27 (by decide) ?_
        exact wX10_statute_31 hc S (6 : Int32) a1 a2 _ _ _ (lv_sub hl [0, 1, 2] rfl) hG h
    · have h := g_pos c6 h
      refine lv_iconst (v := (-1 : Int32)) hx hb dX10_statute_15 (by decide) ?_
      exact g_iret hc hG dX10_statute_16 h
theorem mX10_statute (l : Launch) (E : GE) {S : GS} {a1 : Int32} {a2 : Int32} {a3 : Int32} {res : (Int32 × GS)} (h : fX10_statute S a1 a2 a3 = some res) : gMet l E yX10_statute cX10_statute 4 (some .int) rmX10_statute [gR E 0, .int a1, .int a2, .int a3] S (some (.int res.1)) res.2 :=
  g_met (by decide) (Nat.le_of_ble_eq_true rfl) rfl fun p e s m below meth c H ls hc hG hl => wX10_statute_0 hc S a1 a2 a3 H [] ls hl hG h
abbrev rmX10_join : Room := { frames := 1, cells := 0, slots := 0, locals := 26 }
def fX10_join (S : GS) (a1 : Int32) (a2 : Int32) : Option (Int32 × GS) := gbv (fX10_isPoint S a1) fun r2 => (if r2 = 0 then (some ((-1 : Int32), S)) else gbv (fX10_isPoint S a2) fun r5 => (if r5 = 0 then (some ((-1 : Int32), S)) else (if a1 = a2 then (some ((-1 : Int32), S)) else gbd (fX4_add S (7 : Int32) (S.1 0 2) (-1 : Int32) a2 a1 (0 : Int32)) fun r9 S10 => (some (r9, S10)))))
set_option maxRecDepth 100000 in
set_option maxHeartbeats 4000000 in
theorem wX10_join_0 {p : Program} {l : Launch} {e : Env} {s : State} {m : MethodId} {args : Array Value} {below : List Frame} {meth : Method} {c : Code} {E : GE} {res : (Int32 × GS)} (hc : GM E p s m args meth c RX10 cX10_join 3 (some .int)) : ∀ (S : GS) (a1 : Int32) (a2 : Int32) (H : Heap) (locs : List Loc) (ls : Array Slot), lv_has ls 3 [(0, gR E 0), (1, .int a1), (2, .int a2)] → GX E S H locs → fX10_join S a1 a2 = some res → W p l e rmX10_join s m args below meth c H locs 0 0 (gZ E below args s (some (.int res.1)) res.2) (F0 m 0 ls []) := by
  obtain ⟨hx, hb, -, -, -, hown, hts, -, -⟩ := id hc
  intro S a1 a2 H locs ls hl hG h
  unfold fX10_join at h
  refine lv_aload_n hx hb dX10_join_0 rfl (lv_at hl 0 rfl) ?_
  refine lv_iload_n hx hb dX10_join_1 rfl (lv_at hl 1 rfl) ?_
  obtain ⟨r2, hm1, h⟩ := g_bv h
  refine g_callVi (As := [.int a1]) hc hG (mX10_isPoint l E hm1) mlX10_116 mcX10_isPoint miX10_isPoint rfl rfl rfl rfl hl.1 rfl rfl ⟨by decide, by decide⟩ (Nat.le_of_ble_eq_true rfl) ⟨by decide, by decide⟩ dX10_join_2 rfl (fun H locs hG => ?_)
  refine lv_if_eq (tgt := 21) hx hb dX10_join_5 (by decide) (fun c3 => ?_) (fun c3 => ?_)
  · have h := g_pos c3 h
    refine lv_iconst (v := (-1 : Int32)) hx hb dX10_join_21 (by decide) ?_
    exact g_iret hc hG dX10_join_22 h
  · have h := g_neg c3 h
    refine lv_aload_n hx hb dX10_join_8 rfl (lv_at hl 0 rfl) ?_
    refine lv_iload_n hx hb dX10_join_9 rfl (lv_at hl 2 rfl) ?_
    obtain ⟨r5, hm4, h⟩ := g_bv h
    refine g_callVi (As := [.int a2]) hc hG (mX10_isPoint l E hm4) mlX10_116 mcX10_isPoint miX10_isPoint rfl rfl rfl rfl hl.1 rfl rfl ⟨by decide, by decide⟩ (Nat.le_of_ble_eq_true rfl) ⟨by decide, by decide⟩ dX10_join_10 rfl (fun H locs hG => ?_)
    refine lv_if_eq (tgt := 21) hx hb dX10_join_13 (by decide) (fun c6 => ?_) (fun c6 => ?_)
    · have h := g_pos c6 h
      refine lv_iconst (v := (-1 : Int32)) hx hb dX10_join_21 (by decide) ?_
      exact g_iret hc hG dX10_join_22 h
    · have h := g_neg c6 h
      refine lv_iload_n hx hb dX10_join_16 rfl (lv_at hl 1 rfl) ?_
      refine lv_iload_n hx hb dX10_join_17 rfl (lv_at hl 2 rfl) ?_
      refine lv_icmp_ne (tgt := 23) hx hb dX10_join_18 (by decide) (fun c7 => ?_) (fun c7 => ?_)
      · have h := g_neg c7 h
        refine lv_aload_n hx hb dX10_join_23 rfl (lv_at hl 0 rfl) ?_
        refine g_getR hc hG 0 14 flX10_37 rfl rfl rfl dX10_join_24 ?_
        refine lv_bipush (v := (7 : Int32)) hx hb dX10_join_27 (by decide) ?_
        refine lv_aload_n hx hb dX10_join_29 rfl (lv_at hl 0 rfl) ?_
        refine g_getI hc hG 0 flX10_106 rfl rfl dX10_join_30 ?_
        refine lv_iconst (v := (-1 : Int32)) hx hb dX10_join_33 (by decide) ?_
        refine lv_iload_n hx hb dX10_join_34 rfl (lv_at hl 2 rfl) ?_
        refine lv_iload_n hx hb dX10_join_35 rfl (lv_at hl 1 rfl) ?_
        refine lv_iconst (v := (0 : Int32)) hx hb dX10_join_36 (by decide) ?_
        obtain ⟨r9, S10, hm8, h⟩ := g_bd h
        refine g_callVi (As := [.int (7 : Int32), .int (S.1 0 2), .int (-1 : Int32), .int a2, .int a1, .int (0 : Int32)]) hc hG (mX4_add l E hm8) mlX10_142 mcX4_add miX4_add rfl rfl rfl rfl hl.1 rfl rfl ⟨by decide, by decide⟩ (Nat.le_of_ble_eq_true rfl) ⟨by decide, by decide⟩ dX10_join_37 rfl (fun H locs hG => ?_)
        exact g_iret hc hG dX10_join_40 h
      · have h := g_pos c7 h
        refine lv_iconst (v := (-1 : Int32)) hx hb dX10_join_21 (by decide) ?_
        exact g_iret hc hG dX10_join_22 h
theorem mX10_join (l : Launch) (E : GE) {S : GS} {a1 : Int32} {a2 : Int32} {res : (Int32 × GS)} (h : fX10_join S a1 a2 = some res) : gMet l E yX10_join cX10_join 3 (some .int) rmX10_join [gR E 0, .int a1, .int a2] S (some (.int res.1)) res.2 :=
  g_met (by decide) (Nat.le_of_ble_eq_true rfl) rfl fun p e s m below meth c H ls hc hG hl => wX10_join_0 hc S a1 a2 H [] ls hl hG h
abbrev rmX10_strike : Room := { frames := 1, cells := 0, slots := 0, locals := 26 }
def fX10_strike (S : GS) (a1 : Int32) : Option (Int32 × GS) := (if a1 < 0 then (some ((-1 : Int32), S)) else (if a1 < (S.1 14 0) then gbd (fX4_add S (8 : Int32) (S.1 0 2) (-1 : Int32) a1 (-1 : Int32) (0 : Int32)) fun r4 S5 => (some (r4, S5)) else (some ((-1 : Int32), S))))
set_option maxRecDepth 100000 in
set_option maxHeartbeats 4000000 in
theorem wX10_strike_0 {p : Program} {l : Launch} {e : Env} {s : State} {m : MethodId} {args : Array Value} {below : List Frame} {meth : Method} {c : Code} {E : GE} {res : (Int32 × GS)} (hc : GM E p s m args meth c RX10 cX10_strike 2 (some .int)) : ∀ (S : GS) (a1 : Int32) (H : Heap) (locs : List Loc) (ls : Array Slot), lv_has ls 2 [(0, gR E 0), (1, .int a1)] → GX E S H locs → fX10_strike S a1 = some res → W p l e rmX10_strike s m args below meth c H locs 0 0 (gZ E below args s (some (.int res.1)) res.2) (F0 m 0 ls []) := by
  obtain ⟨hx, hb, -, -, -, hown, hts, -, -⟩ := id hc
  intro S a1 H locs ls hl hG h
  unfold fX10_strike at h
  refine lv_iload_n hx hb dX10_strike_0 rfl (lv_at hl 1 rfl) ?_
  refine lv_if_lt (tgt := 15) hx hb dX10_strike_1 (by decide) (fun c1 => ?_) (fun c1 => ?_)
  · have h := g_pos c1 h
    refine lv_iconst (v := (-1 : Int32)) hx hb dX10_strike_15 (by decide) ?_
    exact g_iret hc hG dX10_strike_16 h
  · have h := g_neg c1 h
    refine lv_iload_n hx hb dX10_strike_4 rfl (lv_at hl 1 rfl) ?_
    refine lv_aload_n hx hb dX10_strike_5 rfl (lv_at hl 0 rfl) ?_
    refine g_getR hc hG 0 14 flX10_37 rfl rfl rfl dX10_strike_6 ?_
    refine g_getI hc hG 14 flX10_148 rfl rfl dX10_strike_9 ?_
    refine lv_icmp_lt (tgt := 17) hx hb dX10_strike_12 (by decide) (fun c2 => ?_) (fun c2 => ?_)
    · have h := g_pos c2 h
      refine lv_aload_n hx hb dX10_strike_17 rfl (lv_at hl 0 rfl) ?_
      refine g_getR hc hG 0 14 flX10_37 rfl rfl rfl dX10_strike_18 ?_
      refine lv_bipush (v := (8 : Int32)) hx hb dX10_strike_21 (by decide) ?_
      refine lv_aload_n hx hb dX10_strike_23 rfl (lv_at hl 0 rfl) ?_
      refine g_getI hc hG 0 flX10_106 rfl rfl dX10_strike_24 ?_
      refine lv_iconst (v := (-1 : Int32)) hx hb dX10_strike_27 (by decide) ?_
      refine lv_iload_n hx hb dX10_strike_28 rfl (lv_at hl 1 rfl) ?_
      refine lv_iconst (v := (-1 : Int32)) hx hb dX10_strike_29 (by decide) ?_
      refine lv_iconst (v := (0 : Int32)) hx hb dX10_strike_30 (by decide) ?_
      obtain ⟨r4, S5, hm3, h⟩ := g_bd h
      refine g_callVi (As := [.int (8 : Int32), .int (S.1 0 2), .int (-1 : Int32), .int a1, .int (-1 : Int32), .int (0 : Int32)]) hc hG (mX4_add l E hm3) mlX10_142 mcX4_add miX4_add rfl rfl rfl rfl hl.1 rfl rfl ⟨by decide, by decide⟩ (Nat.le_of_ble_eq_true rfl) ⟨by decide, by decide⟩ dX10_strike_31 rfl (fun H locs hG => ?_)
      exact g_iret hc hG dX10_strike_34 h
    · have h := g_neg c2 h
      refine lv_iconst (v := (-1 : Int32)) hx hb dX10_strike_15 (by decide) ?_
      exact g_iret hc hG dX10_strike_16 h
theorem mX10_strike (l : Launch) (E : GE) {S : GS} {a1 : Int32} {res : (Int32 × GS)} (h : fX10_strike S a1 = some res) : gMet l E yX10_strike cX10_strike 2 (some .int) rmX10_strike [gR E 0, .int a1] S (some (.int res.1)) res.2 :=
  g_met (by decide) (Nat.le_of_ble_eq_true rfl) rfl fun p e s m below meth c H ls hc hG hl => wX10_strike_0 hc S a1 H [] ls hl hG h
abbrev rmX10_isAskable : Room := { frames := 1, cells := 0, slots := 0, locals := 21 }
def fX10_isAskable (S : GS) (a1 : Int32) (a2 : Int32) (a3 : Int32) (a4 : Int32) : Option Int32 := gbv (fX10_isCourt S a1) fun r2 => (if r2 = 0 then (some (0 : Int32)) else gbv (fX10_areFacts S a2) fun r5 => (if r5 = 0 then (some (0 : Int32)) else gbv (fX10_isDay S a3) fun r8 => (if r8 = 0 then (some (0 : Int32)) else gbv (fX10_isDay S a4) fun r11 => (if r11 = 0 then (some (0 : Int32)) else (some (1 : Int32))))))
set_option maxRecDepth 100000 in
set_option maxHeartbeats 4000000 in
theorem wX10_isAskable_0 {p : Program} {l : Launch} {e : Env} {s : State} {m : MethodId} {args : Array Value} {below : List Frame} {meth : Method} {c : Code} {E : GE} {res : Int32} (hc : GM E p s m args meth c RX10 cX10_isAskable 5 (some .boolean)) : ∀ (S : GS) (a1 : Int32) (a2 : Int32) (a3 : Int32) (a4 : Int32) (H : Heap) (locs : List Loc) (ls : Array Slot), lv_has ls 5 [(0, gR E 0), (1, .int a1), (2, .int a2), (3, .int a3), (4, .int a4)] → GX E S H locs → fX10_isAskable S a1 a2 a3 a4 = some res → W p l e rmX10_isAskable s m args below meth c H locs 0 0 (gZ E below args s (some (.int res)) S) (F0 m 0 ls []) := by
  obtain ⟨hx, hb, -, -, -, hown, hts, -, -⟩ := id hc
  intro S a1 a2 a3 a4 H locs ls hl hG h
  unfold fX10_isAskable at h
  refine lv_aload_n hx hb dX10_isAskable_0 rfl (lv_at hl 0 rfl) ?_
  refine lv_iload_n hx hb dX10_isAskable_1 rfl (lv_at hl 1 rfl) ?_
  obtain ⟨r2, hm1, h⟩ := g_bv h
  refine g_callVi (As := [.int a1]) hc hG (mX10_isCourt l E hm1) mlX10_127 mcX10_isCourt miX10_isCourt rfl rfl rfl rfl hl.1 rfl rfl ⟨by decide, by decide⟩ (Nat.le_of_ble_eq_true rfl) ⟨by decide, by decide⟩ dX10_isAskable_2 rfl (fun H locs hG => ?_)
  refine lv_if_eq (tgt := 34) hx hb dX10_isAskable_5 (by decide) (fun c3 => ?_) (fun c3 => ?_)
  · have h := g_pos c3 h
    refine lv_iconst (v := (0 : Int32)) hx hb dX10_isAskable_34 (by decide) ?_
    exact g_zretp hc hG (Or.inl rfl) dX10_isAskable_35 h
  · have h := g_neg c3 h
    refine lv_iload_n hx hb dX10_isAskable_8 rfl (lv_at hl 2 rfl) ?_
    obtain ⟨r5, hm4, h⟩ := g_bv h
    refine g_callSi (As := [.int a2]) hc hG (mX10_areFacts l E hm4) mlX10_130 mcX10_areFacts msX10_areFacts rfl hl.1 rfl rfl ⟨by decide, by decide⟩ (Nat.le_of_ble_eq_true rfl) ⟨by decide, by decide⟩ dX10_isAskable_9 rfl (fun H locs hG => ?_)
    refine lv_if_eq (tgt := 34) hx hb dX10_isAskable_12 (by decide) (fun c6 => ?_) (fun c6 => ?_)
    · have h := g_pos c6 h
      refine lv_iconst (v := (0 : Int32)) hx hb dX10_isAskable_34 (by decide) ?_
      exact g_zretp hc hG (Or.inl rfl) dX10_isAskable_35 h
    · have h := g_neg c6 h
      refine lv_iload_n hx hb dX10_isAskable_15 rfl (lv_at hl 3 rfl) ?_
      obtain ⟨r8, hm7, h⟩ := g_bv h
      refine g_callSi (As := [.int a3]) hc hG (mX10_isDay l E hm7) mlX10_102 mcX10_isDay msX10_isDay rfl hl.1 rfl rfl ⟨by decide, by decide⟩ (Nat.le_of_ble_eq_true rfl) ⟨by decide, by decide⟩ dX10_isAskable_16 rfl (fun H locs hG => ?_)
      refine lv_if_eq (tgt := 34) hx hb dX10_isAskable_19 (by decide) (fun c9 => ?_) (fun c9 => ?_)
      · have h := g_pos c9 h
        refine lv_iconst (v := (0 : Int32)) hx hb dX10_isAskable_34 (by decide) ?_
        exact g_zretp hc hG (Or.inl rfl) dX10_isAskable_35 h
      · have h := g_neg c9 h
        refine lv_iload hx hb dX10_isAskable_22 (lv_at hl 4 rfl) ?_
        obtain ⟨r11, hm10, h⟩ := g_bv h
        refine g_callSi (As := [.int a4]) hc hG (mX10_isDay l E hm10) mlX10_102 mcX10_isDay msX10_isDay rfl hl.1 rfl rfl ⟨by decide, by decide⟩ (Nat.le_of_ble_eq_true rfl) ⟨by decide, by decide⟩ dX10_isAskable_24 rfl (fun H locs hG => ?_)
        refine lv_if_eq (tgt := 34) hx hb dX10_isAskable_27 (by decide) (fun c12 => ?_) (fun c12 => ?_)
        · have h := g_pos c12 h
          refine lv_iconst (v := (0 : Int32)) hx hb dX10_isAskable_34 (by decide) ?_
          exact g_zretp hc hG (Or.inl rfl) dX10_isAskable_35 h
        · have h := g_neg c12 h
          refine lv_iconst (v := (1 : Int32)) hx hb dX10_isAskable_30 (by decide) ?_
          refine lv_goto (tgt := 35) hx hb dX10_isAskable_31 (by decide) ?_
          exact g_zretp hc hG (Or.inr rfl) dX10_isAskable_35 h
theorem mX10_isAskable (l : Launch) (E : GE) {S : GS} {a1 : Int32} {a2 : Int32} {a3 : Int32} {a4 : Int32} {res : Int32} (h : fX10_isAskable S a1 a2 a3 a4 = some res) : gMet l E yX10_isAskable cX10_isAskable 5 (some .boolean) rmX10_isAskable [gR E 0, .int a1, .int a2, .int a3, .int a4] S (some (.int res)) S :=
  g_met (by decide) (Nat.le_of_ble_eq_true rfl) rfl fun p e s m below meth c H ls hc hG hl => wX10_isAskable_0 hc S a1 a2 a3 a4 H [] ls hl hG h
abbrev rmX10_stand : Room := { frames := 7, cells := 0, slots := 0, locals := 179 }
def fX10_stand (S : GS) (a1 : Int32) (a2 : Int32) (a3 : Int32) (a4 : Int32) (a5 : Int32) : Option (Int32 × GS) := gbv (fX10_isPoint S a1) fun r2 => (if r2 = 0 then (some ((-1 : Int32), S)) else gbv (fX10_isAskable S a2 a3 a4 a5) fun r5 => (if r5 = 0 then (some ((-1 : Int32), S)) else gbd (fX9_see S (S.2.2 0) a5 (-1 : Int32)) fun r8 S9 => gbd (fX9_goToDay S9 a4) fun r11 S12 => (if gib a1 12 = true then gbd (fX9_standOf S12 (S12.1 37 a1.toNatClampNeg) a2 a3) fun r15 S16 => (some (r15, S16)) else none)))
set_option maxRecDepth 100000 in
set_option maxHeartbeats 4000000 in
theorem wX10_stand_0 {p : Program} {l : Launch} {e : Env} {s : State} {m : MethodId} {args : Array Value} {below : List Frame} {meth : Method} {c : Code} {E : GE} {res : (Int32 × GS)} (hc : GM E p s m args meth c RX10 cX10_stand 6 (some .int)) : ∀ (S : GS) (a1 : Int32) (a2 : Int32) (a3 : Int32) (a4 : Int32) (a5 : Int32) (H : Heap) (locs : List Loc) (ls : Array Slot), lv_has ls 6 [(0, gR E 0), (1, .int a1), (2, .int a2), (3, .int a3), (4, .int a4), (5, .int a5)] → GX E S H locs → fX10_stand S a1 a2 a3 a4 a5 = some res → W p l e rmX10_stand s m args below meth c H locs 0 0 (gZ E below args s (some (.int res.1)) res.2) (F0 m 0 ls []) := by
  obtain ⟨hx, hb, -, -, -, hown, hts, -, -⟩ := id hc
  intro S a1 a2 a3 a4 a5 H locs ls hl hG h
  unfold fX10_stand at h
  refine lv_aload_n hx hb dX10_stand_0 rfl (lv_at hl 0 rfl) ?_
  refine lv_iload_n hx hb dX10_stand_1 rfl (lv_at hl 1 rfl) ?_
  obtain ⟨r2, hm1, h⟩ := g_bv h
  refine g_callVi (As := [.int a1]) hc hG (mX10_isPoint l E hm1) mlX10_116 mcX10_isPoint miX10_isPoint rfl rfl rfl rfl hl.1 rfl rfl ⟨by decide, by decide⟩ (Nat.le_of_ble_eq_true rfl) ⟨by decide, by decide⟩ dX10_stand_2 rfl (fun H locs hG => ?_)
  refine lv_if_eq (tgt := 21) hx hb dX10_stand_5 (by decide) (fun c3 => ?_) (fun c3 => ?_)
  · have h := g_pos c3 h
    refine lv_iconst (v := (-1 : Int32)) hx hb dX10_stand_21 (by decide) ?_
    exact g_iret hc hG dX10_stand_22 h
  · have h := g_neg c3 h
    refine lv_aload_n hx hb dX10_stand_8 rfl (lv_at hl 0 rfl) ?_
    refine lv_iload_n hx hb dX10_stand_9 rfl (lv_at hl 2 rfl) ?_
    refine lv_iload_n hx hb dX10_stand_10 rfl (lv_at hl 3 rfl) ?_
    refine lv_iload hx hb dX10_stand_11 (lv_at hl 4 rfl) ?_
    refine lv_iload hx hb dX10_stand_13 (lv_at hl 5 rfl) ?_
    obtain ⟨r5, hm4, h⟩ := g_bv h
    refine g_callVi (As := [.int a2, .int a3, .int a4, .int a5]) hc hG (mX10_isAskable l E hm4) mlX10_149 mcX10_isAskable miX10_isAskable rfl rfl rfl rfl hl.1 rfl rfl ⟨by decide, by decide⟩ (Nat.le_of_ble_eq_true rfl) ⟨by decide, by decide⟩ dX10_stand_15 rfl (fun H locs hG => ?_)
    refine lv_if_ne (tgt := 23) hx hb dX10_stand_18 (by decide) (fun c6 => ?_) (fun c6 => ?_)
    · have h := g_neg c6 h
      refine lv_aload_n hx hb dX10_stand_23 rfl (lv_at hl 0 rfl) ?_
      refine g_getR hc hG 0 35 flX10_70 rfl rfl rfl dX10_stand_24 ?_
      refine lv_aload_n hx hb dX10_stand_27 rfl (lv_at hl 0 rfl) ?_
      refine g_getR hc hG 0 (S.2.2 0) flX10_44 rfl rfl rfl dX10_stand_28 ?_
      refine lv_iload hx hb dX10_stand_31 (lv_at hl 5 rfl) ?_
      refine lv_iconst (v := (-1 : Int32)) hx hb dX10_stand_33 (by decide) ?_
      obtain ⟨r8, S9, hm7, h⟩ := g_bd h
      refine g_callVv (As := [gR E (S.2.2 0), .int a5, .int (-1 : Int32)]) hc hG (mX9_see l E hm7) mlX10_153 mcX9_see miX9_see rfl rfl rfl rfl hl.1 rfl rfl ⟨by decide, by decide⟩ (Nat.le_of_ble_eq_true rfl) ⟨by decide, by decide⟩ dX10_stand_34 rfl (fun H locs hG => ?_)
      refine lv_aload_n hx hb dX10_stand_37 rfl (lv_at hl 0 rfl) ?_
      refine g_getR hc hG 0 35 flX10_70 rfl rfl rfl dX10_stand_38 ?_
      refine lv_iload hx hb dX10_stand_41 (lv_at hl 4 rfl) ?_
      obtain ⟨r11, S12, hm10, h⟩ := g_bd h
      refine g_callVv (As := [.int a4]) hc hG (mX9_goToDay l E hm10) mlX10_157 mcX9_goToDay miX9_goToDay rfl rfl rfl rfl hl.1 rfl rfl ⟨by decide, by decide⟩ (Nat.le_of_ble_eq_true rfl) ⟨by decide, by decide⟩ dX10_stand_43 rfl (fun H locs hG => ?_)
      refine lv_aload_n hx hb dX10_stand_46 rfl (lv_at hl 0 rfl) ?_
      refine g_getR hc hG 0 35 flX10_70 rfl rfl rfl dX10_stand_47 ?_
      refine lv_aload_n hx hb dX10_stand_50 rfl (lv_at hl 0 rfl) ?_
      refine g_getR hc hG 0 35 flX10_70 rfl rfl rfl dX10_stand_51 ?_
      refine g_getR hc hG 35 36 flX10_160 rfl rfl rfl dX10_stand_54 ?_
      refine g_getR hc hG 36 37 flX10_164 rfl rfl rfl dX10_stand_57 ?_
      refine lv_iload_n hx hb dX10_stand_60 rfl (lv_at hl 1 rfl) ?_
      obtain ⟨hi13, h⟩ := g_if h
      refine g_iald hc hG 37 12 (a1.toNatClampNeg) rfl rfl hi13 rfl dX10_stand_61 ?_
      refine lv_iload_n hx hb dX10_stand_62 rfl (lv_at hl 2 rfl) ?_
      refine lv_iload_n hx hb dX10_stand_63 rfl (lv_at hl 3 rfl) ?_
      obtain ⟨r15, S16, hm14, h⟩ := g_bd h
      refine g_callVi (As := [.int (S12.1 37 a1.toNatClampNeg), .int a2, .int a3]) hc hG (mX9_standOf l E hm14) mlX10_167 mcX9_standOf miX9_standOf rfl rfl rfl rfl hl.1 rfl rfl ⟨by decide, by decide⟩ (Nat.le_of_ble_eq_true rfl) ⟨by decide, by decide⟩ dX10_stand_64 rfl (fun H locs hG => ?_)
      exact g_iret hc hG dX10_stand_67 h
    · have h := g_pos c6 h
      refine lv_iconst (v := (-1 : Int32)) hx hb dX10_stand_21 (by decide) ?_
      exact g_iret hc hG dX10_stand_22 h
theorem mX10_stand (l : Launch) (E : GE) {S : GS} {a1 : Int32} {a2 : Int32} {a3 : Int32} {a4 : Int32} {a5 : Int32} {res : (Int32 × GS)} (h : fX10_stand S a1 a2 a3 a4 a5 = some res) : gMet l E yX10_stand cX10_stand 6 (some .int) rmX10_stand [gR E 0, .int a1, .int a2, .int a3, .int a4, .int a5] S (some (.int res.1)) res.2 :=
  g_met (by decide) (Nat.le_of_ble_eq_true rfl) rfl fun p e s m below meth c H ls hc hG hl => wX10_stand_0 hc S a1 a2 a3 a4 a5 H [] ls hl hG h
abbrev rmX10_lead : Room := { frames := 7, cells := 0, slots := 0, locals := 179 }
def fX10_lead (S : GS) (a1 : Int32) (a2 : Int32) (a3 : Int32) (a4 : Int32) (a5 : Int32) : Option (Int32 × GS) := gbv (fX10_isPoint S a1) fun r2 => (if r2 = 0 then (some ((-1 : Int32), S)) else gbv (fX10_isAskable S a2 a3 a4 a5) fun r5 => (if r5 = 0 then (some ((-1 : Int32), S)) else gbd (fX9_see S (S.2.2 0) a5 (-1 : Int32)) fun r8 S9 => gbd (fX9_goToDay S9 a4) fun r11 S12 => (if gib a1 12 = true then gbd (fX9_leaderOf S12 (S12.1 37 a1.toNatClampNeg) a2 a3) fun r15 S16 => (some (r15, S16)) else none)))
set_option maxRecDepth 100000 in
set_option maxHeartbeats 4000000 in
theorem wX10_lead_0 {p : Program} {l : Launch} {e : Env} {s : State} {m : MethodId} {args : Array Value} {below : List Frame} {meth : Method} {c : Code} {E : GE} {res : (Int32 × GS)} (hc : GM E p s m args meth c RX10 cX10_lead 6 (some .int)) : ∀ (S : GS) (a1 : Int32) (a2 : Int32) (a3 : Int32) (a4 : Int32) (a5 : Int32) (H : Heap) (locs : List Loc) (ls : Array Slot), lv_has ls 6 [(0, gR E 0), (1, .int a1), (2, .int a2), (3, .int a3), (4, .int a4), (5, .int a5)] → GX E S H locs → fX10_lead S a1 a2 a3 a4 a5 = some res → W p l e rmX10_lead s m args below meth c H locs 0 0 (gZ E below args s (some (.int res.1)) res.2) (F0 m 0 ls []) := by
  obtain ⟨hx, hb, -, -, -, hown, hts, -, -⟩ := id hc
  intro S a1 a2 a3 a4 a5 H locs ls hl hG h
  unfold fX10_lead at h
  refine lv_aload_n hx hb dX10_lead_0 rfl (lv_at hl 0 rfl) ?_
  refine lv_iload_n hx hb dX10_lead_1 rfl (lv_at hl 1 rfl) ?_
  obtain ⟨r2, hm1, h⟩ := g_bv h
  refine g_callVi (As := [.int a1]) hc hG (mX10_isPoint l E hm1) mlX10_116 mcX10_isPoint miX10_isPoint rfl rfl rfl rfl hl.1 rfl rfl ⟨by decide, by decide⟩ (Nat.le_of_ble_eq_true rfl) ⟨by decide, by decide⟩ dX10_lead_2 rfl (fun H locs hG => ?_)
  refine lv_if_eq (tgt := 21) hx hb dX10_lead_5 (by decide) (fun c3 => ?_) (fun c3 => ?_)
  · have h := g_pos c3 h
    refine lv_iconst (v := (-1 : Int32)) hx hb dX10_lead_21 (by decide) ?_
    exact g_iret hc hG dX10_lead_22 h
  · have h := g_neg c3 h
    refine lv_aload_n hx hb dX10_lead_8 rfl (lv_at hl 0 rfl) ?_
    refine lv_iload_n hx hb dX10_lead_9 rfl (lv_at hl 2 rfl) ?_
    refine lv_iload_n hx hb dX10_lead_10 rfl (lv_at hl 3 rfl) ?_
    refine lv_iload hx hb dX10_lead_11 (lv_at hl 4 rfl) ?_
    refine lv_iload hx hb dX10_lead_13 (lv_at hl 5 rfl) ?_
    obtain ⟨r5, hm4, h⟩ := g_bv h
    refine g_callVi (As := [.int a2, .int a3, .int a4, .int a5]) hc hG (mX10_isAskable l E hm4) mlX10_149 mcX10_isAskable miX10_isAskable rfl rfl rfl rfl hl.1 rfl rfl ⟨by decide, by decide⟩ (Nat.le_of_ble_eq_true rfl) ⟨by decide, by decide⟩ dX10_lead_15 rfl (fun H locs hG => ?_)
    refine lv_if_ne (tgt := 23) hx hb dX10_lead_18 (by decide) (fun c6 => ?_) (fun c6 => ?_)
    · have h := g_neg c6 h
      refine lv_aload_n hx hb dX10_lead_23 rfl (lv_at hl 0 rfl) ?_
      refine g_getR hc hG 0 35 flX10_70 rfl rfl rfl dX10_lead_24 ?_
      refine lv_aload_n hx hb dX10_lead_27 rfl (lv_at hl 0 rfl) ?_
      refine g_getR hc hG 0 (S.2.2 0) flX10_44 rfl rfl rfl dX10_lead_28 ?_
      refine lv_iload hx hb dX10_lead_31 (lv_at hl 5 rfl) ?_
      refine lv_iconst (v := (-1 : Int32)) hx hb dX10_lead_33 (by decide) ?_
      obtain ⟨r8, S9, hm7, h⟩ := g_bd h
      refine g_callVv (As := [gR E (S.2.2 0), .int a5, .int (-1 : Int32)]) hc hG (mX9_see l E hm7) mlX10_153 mcX9_see miX9_see rfl rfl rfl rfl hl.1 rfl rfl ⟨by decide, by decide⟩ (Nat.le_of_ble_eq_true rfl) ⟨by decide, by decide⟩ dX10_lead_34 rfl (fun H locs hG => ?_)
      refine lv_aload_n hx hb dX10_lead_37 rfl (lv_at hl 0 rfl) ?_
      refine g_getR hc hG 0 35 flX10_70 rfl rfl rfl dX10_lead_38 ?_
      refine lv_iload hx hb dX10_lead_41 (lv_at hl 4 rfl) ?_
      obtain ⟨r11, S12, hm10, h⟩ := g_bd h
      refine g_callVv (As := [.int a4]) hc hG (mX9_goToDay l E hm10) mlX10_157 mcX9_goToDay miX9_goToDay rfl rfl rfl rfl hl.1 rfl rfl ⟨by decide, by decide⟩ (Nat.le_of_ble_eq_true rfl) ⟨by decide, by decide⟩ dX10_lead_43 rfl (fun H locs hG => ?_)
      refine lv_aload_n hx hb dX10_lead_46 rfl (lv_at hl 0 rfl) ?_
      refine g_getR hc hG 0 35 flX10_70 rfl rfl rfl dX10_lead_47 ?_
      refine lv_aload_n hx hb dX10_lead_50 rfl (lv_at hl 0 rfl) ?_
      refine g_getR hc hG 0 35 flX10_70 rfl rfl rfl dX10_lead_51 ?_
      refine g_getR hc hG 35 36 flX10_160 rfl rfl rfl dX10_lead_54 ?_
      refine g_getR hc hG 36 37 flX10_164 rfl rfl rfl dX10_lead_57 ?_
      refine lv_iload_n hx hb dX10_lead_60 rfl (lv_at hl 1 rfl) ?_
      obtain ⟨hi13, h⟩ := g_if h
      refine g_iald hc hG 37 12 (a1.toNatClampNeg) rfl rfl hi13 rfl dX10_lead_61 ?_
      refine lv_iload_n hx hb dX10_lead_62 rfl (lv_at hl 2 rfl) ?_
      refine lv_iload_n hx hb dX10_lead_63 rfl (lv_at hl 3 rfl) ?_
      obtain ⟨r15, S16, hm14, h⟩ := g_bd h
      refine g_callVi (As := [.int (S12.1 37 a1.toNatClampNeg), .int a2, .int a3]) hc hG (mX9_leaderOf l E hm14) mlX10_171 mcX9_leaderOf miX9_leaderOf rfl rfl rfl rfl hl.1 rfl rfl ⟨by decide, by decide⟩ (Nat.le_of_ble_eq_true rfl) ⟨by decide, by decide⟩ dX10_lead_64 rfl (fun H locs hG => ?_)
      exact g_iret hc hG dX10_lead_67 h
    · have h := g_pos c6 h
      refine lv_iconst (v := (-1 : Int32)) hx hb dX10_lead_21 (by decide) ?_
      exact g_iret hc hG dX10_lead_22 h
theorem mX10_lead (l : Launch) (E : GE) {S : GS} {a1 : Int32} {a2 : Int32} {a3 : Int32} {a4 : Int32} {a5 : Int32} {res : (Int32 × GS)} (h : fX10_lead S a1 a2 a3 a4 a5 = some res) : gMet l E yX10_lead cX10_lead 6 (some .int) rmX10_lead [gR E 0, .int a1, .int a2, .int a3, .int a4, .int a5] S (some (.int res.1)) res.2 :=
  g_met (by decide) (Nat.le_of_ble_eq_true rfl) rfl fun p e s m below meth c H ls hc hG hl => wX10_lead_0 hc S a1 a2 a3 a4 a5 H [] ls hl hG h
abbrev rmX10_asNumber : Room := { frames := 0, cells := 0, slots := 0, locals := 0 }
def fX10_asNumber (S : GS) (a0 : Int32) : Option Int32 := (if a0 = 0 then (some (0 : Int32)) else (some (1 : Int32)))
set_option maxRecDepth 100000 in
set_option maxHeartbeats 4000000 in
theorem wX10_asNumber_0 {p : Program} {l : Launch} {e : Env} {s : State} {m : MethodId} {args : Array Value} {below : List Frame} {meth : Method} {c : Code} {E : GE} {res : Int32} (hc : GM E p s m args meth c RX10 cX10_asNumber 1 (some .int)) : ∀ (S : GS) (a0 : Int32) (H : Heap) (locs : List Loc) (ls : Array Slot), lv_has ls 1 [(0, .int a0)] → GX E S H locs → fX10_asNumber S a0 = some res → W p l e rmX10_asNumber s m args below meth c H locs 0 0 (gZ E below args s (some (.int res)) S) (F0 m 0 ls []) := by
  obtain ⟨hx, hb, -, -, -, hown, hts, -, -⟩ := id hc
  intro S a0 H locs ls hl hG h
  unfold fX10_asNumber at h
  refine lv_iload_n hx hb dX10_asNumber_0 rfl (lv_at hl 0 rfl) ?_
  refine lv_if_eq (tgt := 8) hx hb dX10_asNumber_1 (by decide) (fun c1 => ?_) (fun c1 => ?_)
  · have h := g_pos c1 h
    refine lv_iconst (v := (0 : Int32)) hx hb dX10_asNumber_8 (by decide) ?_
    exact g_iretp hc hG dX10_asNumber_9 h
  · have h := g_neg c1 h
    refine lv_iconst (v := (1 : Int32)) hx hb dX10_asNumber_4 (by decide) ?_
    refine lv_goto (tgt := 9) hx hb dX10_asNumber_5 (by decide) ?_
    exact g_iretp hc hG dX10_asNumber_9 h
theorem mX10_asNumber (l : Launch) (E : GE) {S : GS} {a0 : Int32} {res : Int32} (h : fX10_asNumber S a0 = some res) : gMet l E yX10_asNumber cX10_asNumber 1 (some .int) rmX10_asNumber [.int a0] S (some (.int res)) S :=
  g_met (by decide) (Nat.le_of_ble_eq_true rfl) rfl fun p e s m below meth c H ls hc hG hl => wX10_asNumber_0 hc S a0 H [] ls hl hG h
abbrev rmX10_tellOf : Room := { frames := 3, cells := 0, slots := 0, locals := 75 }
def fX10_tellOf (S : GS) (a1 : Int32) (a2 : Int32) (a3 : Int32) : Option (Int32 × GS) := (if gib a1 32 = true then glet (S.1 11 a1.toNatClampNeg) fun v2 => (if a3 = (0 : Int32) then gbv (fX9_votesFor S a1 a2 v2) fun r5 => (some (r5, S)) else (if a3 = (1 : Int32) then gbv (fX9_isHeld S a1 a2 v2) fun r8 => gbv (fX10_asNumber S r8) fun r10 => (some (r10, S)) else (if a3 = (2 : Int32) then gbd (fX9_isOverruled S a1 a2) fun r13 S14 => gbv (fX10_asNumber S14 r13) fun r16 => (some (r16, S14)) else (if a3 = (3 : Int32) then gbv (fX9_doubtsOf S a1 a2) fun r19 => (some (r19, S)) else (if a3 = (4 : Int32) then gbv (fX9_isTaken S a1 a2) fun r22 => gbv (fX10_asNumber S r22) fun r24 => (some (r24, S)) else (if a3 = (5 : Int32) then gbv (fX10_has S (S.1 48 a1.toNatClampNeg) a2) fun r27 => gbv (fX10_asNumber S r27) fun r29 => (some (r29, S)) else gbv (fX10_has S (S.1 35 7) a1) fun r31 => gbv (fX10_asNumber S r31) fun r33 => (some (r33, S)))))))) else none)
set_option maxRecDepth 100000 in
set_option maxHeartbeats 4000000 in
theorem wX10_tellOf_0 {p : Program} {l : Launch} {e : Env} {s : State} {m : MethodId} {args : Array Value} {below : List Frame} {meth : Method} {c : Code} {E : GE} {res : (Int32 × GS)} (hc : GM E p s m args meth c RX10 cX10_tellOf 5 (some .int)) : ∀ (S : GS) (a1 : Int32) (a2 : Int32) (a3 : Int32) (H : Heap) (locs : List Loc) (ls : Array Slot), lv_has ls 5 [(0, gR E 0), (1, .int a1), (2, .int a2), (3, .int a3)] → GX E S H locs → fX10_tellOf S a1 a2 a3 = some res → W p l e rmX10_tellOf s m args below meth c H locs 0 0 (gZ E below args s (some (.int res.1)) res.2) (F0 m 0 ls []) := by
  obtain ⟨hx, hb, -, -, -, hown, hts, -, -⟩ := id hc
  intro S a1 a2 a3 H locs ls hl hG h
  unfold fX10_tellOf at h
  refine lv_aload_n hx hb dX10_tellOf_0 rfl (lv_at hl 0 rfl) ?_
  refine g_getR hc hG 0 7 flX10_30 rfl rfl rfl dX10_tellOf_1 ?_
  refine g_getR hc hG 7 11 flX10_218 rfl rfl rfl dX10_tellOf_4 ?_
  refine lv_iload_n hx hb dX10_tellOf_7 rfl (lv_at hl 1 rfl) ?_
  obtain ⟨hi1, h⟩ := g_if h
  refine g_iald hc hG 11 32 (a1.toNatClampNeg) rfl rfl hi1 rfl dX10_tellOf_8 ?_
  refine lv_topi (fun v2 ev2 => ?_)
  have h := g_let ev2 h
  refine lv_istore (lv' := [(4, .int v2), (0, gR E 0), (1, .int a1), (2, .int a2), (3, .int a3)]) hx hb dX10_tellOf_9 hl (by decide) rfl (fun ls hl => ?_)
  refine lv_iload_n hx hb dX10_tellOf_11 rfl (lv_at hl 4 rfl) ?_
  by_cases c3 : a3 = (0 : Int32)
  · have h := g_pos c3 h
    refine lv_tableIn (off := 40) (tgt := 52) hx hb dX10_tellOf_12 (by rw [c3]; decide) (by rw [c3]; decide) (by rw [c3]; decide) (by decide) ?_
    refine lv_aload_n hx hb dX10_tellOf_52 rfl (lv_at hl 1 rfl) ?_
    refine g_getR hc hG 0 35 flX10_70 rfl rfl rfl dX10_tellOf_53 ?_
    refine lv_iload_n hx hb dX10_tellOf_56 rfl (lv_at hl 2 rfl) ?_
    refine lv_iload_n hx hb dX10_tellOf_57 rfl (lv_at hl 3 rfl) ?_
    refine lv_iload hx hb dX10_tellOf_58 (lv_at hl 0 rfl) ?_
    obtain ⟨r5, hm4, h⟩ := g_bv h
    refine g_callVi (As := [.int a1, .int a2, .int v2]) hc hG (mX9_votesFor l E hm4) mlX10_237 mcX9_votesFor miX9_votesFor rfl rfl rfl rfl hl.1 rfl rfl ⟨by decide, by decide⟩ (Nat.le_of_ble_eq_true rfl) ⟨by decide, by decide⟩ dX10_tellOf_60 rfl (fun H locs hG => ?_)
    exact g_iret hc hG dX10_tellOf_63 h
  have h := g_neg c3 h
  by_cases c6 : a3 = (1 : Int32)
  · have h := g_pos c6 h
    refine lv_tableIn (off := 52) (tgt := 64) hx hb dX10_tellOf_12 (by rw [c6]; decide) (by rw [c6]; decide) (by rw [c6]; decide) (by decide) ?_
    refine lv_aload_n hx hb dX10_tellOf_64 rfl (lv_at hl 1 rfl) ?_
    refine g_getR hc hG 0 35 flX10_70 rfl rfl rfl dX10_tellOf_65 ?_
    refine lv_iload_n hx hb dX10_tellOf_68 rfl (lv_at hl 2 rfl) ?_
    refine lv_iload_n hx hb dX10_tellOf_69 rfl (lv_at hl 3 rfl) ?_
    refine lv_iload hx hb dX10_tellOf_70 (lv_at hl 0 rfl) ?_
    obtain ⟨r8, hm7, h⟩ := g_bv h
    refine g_callVi (As := [.int a1, .int a2, .int v2]) hc hG (mX9_isHeld l E hm7) mlX10_240 mcX9_isHeld miX9_isHeld rfl rfl rfl rfl hl.1 rfl rfl ⟨by decide, by decide⟩ (Nat.le_of_ble_eq_true rfl) ⟨by decide, by decide⟩ dX10_tellOf_72 rfl (fun H locs hG => ?_)
    obtain ⟨r10, hm9, h⟩ := g_bv h
    refine g_callSi (As := [.int r8]) hc hG (mX10_asNumber l E hm9) mlX10_183 mcX10_asNumber msX10_asNumber rfl hl.1 rfl rfl ⟨by decide, by decide⟩ (Nat.le_of_ble_eq_true rfl) ⟨by decide, by decide⟩ dX10_tellOf_75 rfl (fun H locs hG => ?_)
    exact g_iret hc hG dX10_tellOf_78 h
  have h := g_neg c6 h
  by_cases c11 : a3 = (2 : Int32)
  · have h := g_pos c11 h
    refine lv_tableIn (off := 67) (tgt := 79) hx hb dX10_tellOf_12 (by rw [c11]; decide) (by rw [c11]; decide) (by rw [c11]; decide) (by decide) ?_
    refine lv_aload_n hx hb dX10_tellOf_79 rfl (lv_at hl 1 rfl) ?_
    refine g_getR hc hG 0 35 flX10_70 rfl rfl rfl dX10_tellOf_80 ?_
    refine lv_iload_n hx hb dX10_tellOf_83 rfl (lv_at hl 2 rfl) ?_
    refine lv_iload_n hx hb dX10_tellOf_84 rfl (lv_at hl 3 rfl) ?_
    obtain ⟨r13, S14, hm12, h⟩ := g_bd h
    refine g_callVi (As := [.int a1, .int a2]) hc hG (mX9_isOverruled l E hm12) mlX10_244 mcX9_isOverruled miX9_isOverruled rfl rfl rfl rfl hl.1 rfl rfl ⟨by decide, by decide⟩ (Nat.le_of_ble_eq_true rfl) ⟨by decide, by decide⟩ dX10_tellOf_85 rfl (fun H locs hG => ?_)
    obtain ⟨r16, hm15, h⟩ := g_bv h
    refine g_callSi (As := [.int r13]) hc hG (mX10_asNumber l E hm15) mlX10_183 mcX10_asNumber msX10_asNumber rfl hl.1 rfl rfl ⟨by decide, by decide⟩ (Nat.le_of_ble_eq_true rfl) ⟨by decide, by decide⟩ dX10_tellOf_88 rfl (fun H locs hG => ?_)
    exact g_iret hc hG dX10_tellOf_91 h
  have h := g_neg c11 h
  by_cases c17 : a3 = (3 : Int32)
  · have h := g_pos c17 h
    refine lv_tableIn (off := 80) (tgt := 92) hx hb dX10_tellOf_12 (by rw [c17]; decide) (by rw [c17]; decide) (by rw [c17]; decide) (by decide) ?_
    refine lv_aload_n hx hb dX10_tellOf_92 rfl (lv_at hl 1 rfl) ?_
    refine g_getR hc hG 0 35 flX10_70 rfl rfl rfl dX10_tellOf_93 ?_
    refine lv_iload_n hx hb dX10_tellOf_96 rfl (lv_at hl 2 rfl) ?_
    refine lv_iload_n hx hb dX10_tellOf_97 rfl (lv_at hl 3 rfl) ?_
    obtain ⟨r19, hm18, h⟩ := g_bv h
    refine g_callVi (As := [.int a1, .int a2]) hc hG (mX9_doubtsOf l E hm18) mlX10_247 mcX9_doubtsOf miX9_doubtsOf rfl rfl rfl rfl hl.1 rfl rfl ⟨by decide, by decide⟩ (Nat.le_of_ble_eq_true rfl) ⟨by decide, by decide⟩ dX10_tellOf_98 rfl (fun H locs hG => ?_)
    exact g_iret hc hG dX10_tellOf_101 h
  have h := g_neg c17 h
  by_cases c20 : a3 = (4 : Int32)
  · have h := g_pos c20 h
    refine lv_tableIn (off := 90) (tgt := 102) hx hb dX10_tellOf_12 (by rw [c20]; decide) (by rw [c20]; decide) (by rw [c20]; decide) (by decide) ?_
    refine lv_aload_n hx hb dX10_tellOf_102 rfl (lv_at hl 1 rfl) ?_
    refine g_getR hc hG 0 35 flX10_70 rfl rfl rfl dX10_tellOf_103 ?_
    refine lv_iload_n hx hb dX10_tellOf_106 rfl (lv_at hl 2 rfl) ?_
    refine lv_iload_n hx hb dX10_tellOf_107 rfl (lv_at hl 3 rfl) ?_
    obtain ⟨r22, hm21, h⟩ := g_bv h
    refine g_callVi (As := [.int a1, .int a2]) hc hG (mX9_isTaken l E hm21) mlX10_250 mcX9_isTaken miX9_isTaken rfl rfl rfl rfl hl.1 rfl rfl ⟨by decide, by decide⟩ (Nat.le_of_ble_eq_true rfl) ⟨by decide, by decide⟩ dX10_tellOf_108 rfl (fun H locs hG => ?_)
    obtain ⟨r24, hm23, h⟩ := g_bv h
    refine g_callSi (As := [.int r22]) hc hG (mX10_asNumber l E hm23) mlX10_183 mcX10_asNumber msX10_asNumber rfl hl.1 rfl rfl ⟨by decide, by decide⟩ (Nat.le_of_ble_eq_true rfl) ⟨by decide, by decide⟩ dX10_tellOf_111 rfl (fun H locs hG => ?_)
    exact g_iret hc hG dX10_tellOf_114 h
  have h := g_neg c20 h
  by_cases c25 : a3 = (5 : Int32)
  · have h := g_pos c25 h
    refine lv_tableIn (off := 103) (tgt := 115) hx hb dX10_tellOf_12 (by rw [c25]; decide) (by rw [c25]; decide) (by rw [c25]; decide) (by decide) ?_
    refine lv_aload_n hx hb dX10_tellOf_115 rfl (lv_at hl 1 rfl) ?_
    refine g_getR hc hG 0 35 flX10_70 rfl rfl rfl dX10_tellOf_116 ?_
    refine g_getR hc hG 35 48 flX10_253 rfl rfl rfl dX10_tellOf_119 ?_
    refine lv_iload_n hx hb dX10_tellOf_122 rfl (lv_at hl 2 rfl) ?_
    refine g_iald hc hG 48 32 (a1.toNatClampNeg) rfl rfl hi1 rfl dX10_tellOf_123 ?_
    refine lv_iload_n hx hb dX10_tellOf_124 rfl (lv_at hl 3 rfl) ?_
    obtain ⟨r27, hm26, h⟩ := g_bv h
    refine g_callSi (As := [.int (S.1 48 a1.toNatClampNeg), .int a2]) hc hG (mX10_has l E hm26) mlX10_256 mcX10_has msX10_has rfl hl.1 rfl rfl ⟨by decide, by decide⟩ (Nat.le_of_ble_eq_true rfl) ⟨by decide, by decide⟩ dX10_tellOf_125 rfl (fun H locs hG => ?_)
    obtain ⟨r29, hm28, h⟩ := g_bv h
    refine g_callSi (As := [.int r27]) hc hG (mX10_asNumber l E hm28) mlX10_183 mcX10_asNumber msX10_asNumber rfl hl.1 rfl rfl ⟨by decide, by decide⟩ (Nat.le_of_ble_eq_true rfl) ⟨by decide, by decide⟩ dX10_tellOf_128 rfl (fun H locs hG => ?_)
    exact g_iret hc hG dX10_tellOf_131 h
  have h := g_neg c25 h
  have zc3 : ¬ Int32.toInt a3 = 0 := fun q => c3 (Int32.toInt_inj.mp (q.trans (by decide)))
  have zc6 : ¬ Int32.toInt a3 = 1 := fun q => c6 (Int32.toInt_inj.mp (q.trans (by decide)))
  have zc11 : ¬ Int32.toInt a3 = 2 := fun q => c11 (Int32.toInt_inj.mp (q.trans (by decide)))
  have zc17 : ¬ Int32.toInt a3 = 3 := fun q => c17 (Int32.toInt_inj.mp (q.trans (by decide)))
  have zc20 : ¬ Int32.toInt a3 = 4 := fun q => c20 (Int32.toInt_inj.mp (q.trans (by decide)))
  have zc25 : ¬ Int32.toInt a3 = 5 := fun q => c25 (Int32.toInt_inj.mp (q.trans (by decide)))
  refine lv_tableOut (tgt := 132) hx hb dX10_tellOf_12 (by omega) (by decide) ?_
  refine lv_aload_n hx hb dX10_tellOf_132 rfl (lv_at hl 1 rfl) ?_
  refine g_getR hc hG 0 35 flX10_70 rfl rfl rfl dX10_tellOf_133 ?_
  refine g_getI hc hG 35 flX10_259 rfl rfl dX10_tellOf_136 ?_
  refine lv_iload_n hx hb dX10_tellOf_139 rfl (lv_at hl 2 rfl) ?_
  obtain ⟨r31, hm30, h⟩ := g_bv h
  refine g_callSi (As := [.int (S.1 35 7), .int a1]) hc hG (mX10_has l E hm30) mlX10_256 mcX10_has msX10_has rfl hl.1 rfl rfl ⟨by decide, by decide⟩ (Nat.le_of_ble_eq_true rfl) ⟨by decide, by decide⟩ dX10_tellOf_140 rfl (fun H locs hG => ?_)
  obtain ⟨r33, hm32, h⟩ := g_bv h
  refine g_callSi (As := [.int r31]) hc hG (mX10_asNumber l E hm32) mlX10_183 mcX10_asNumber msX10_asNumber rfl hl.1 rfl rfl ⟨by decide, by decide⟩ (Nat.le_of_ble_eq_true rfl) ⟨by decide, by decide⟩ dX10_tellOf_143 rfl (fun H locs hG => ?_)
  exact g_iret hc hG dX10_tellOf_146 h
theorem mX10_tellOf (l : Launch) (E : GE) {S : GS} {a1 : Int32} {a2 : Int32} {a3 : Int32} {res : (Int32 × GS)} (h : fX10_tellOf S a1 a2 a3 = some res) : gMet l E yX10_tellOf cX10_tellOf 5 (some .int) rmX10_tellOf [gR E 0, .int a1, .int a2, .int a3] S (some (.int res.1)) res.2 :=
  g_met (by decide) (Nat.le_of_ble_eq_true rfl) rfl fun p e s m below meth c H ls hc hG hl => wX10_tellOf_0 hc S a1 a2 a3 H [] ls hl hG h
abbrev rmX10_asked : Room := { frames := 7, cells := 0, slots := 0, locals := 179 }
def fX10_asked (S : GS) (a1 : Int32) (a2 : Int32) (a3 : Int32) (a4 : Int32) (a5 : Int32) : Option (Int32 × GS) := gbv (fX10_isCase S a1) fun r2 => (if r2 = 0 then (some ((-1 : Int32), S)) else gbv (fX10_isPoint S a2) fun r5 => (if r5 = 0 then (some ((-1 : Int32), S)) else (if a3 < 0 then (some ((-1 : Int32), S)) else (if (6 : Int32) < a3 then (some ((-1 : Int32), S)) else gbv (fX10_isDay S a4) fun r10 => (if r10 = 0 then (some ((-1 : Int32), S)) else gbv (fX10_isDay S a5) fun r13 => (if r13 = 0 then (some ((-1 : Int32), S)) else gbd (fX9_see S (S.2.2 0) a5 (-1 : Int32)) fun r16 S17 => gbd (fX9_goToDay S17 a4) fun r19 S20 => gbv (fX9_isThere S20 a1) fun r22 => (if r22 = 0 then (some ((-1 : Int32), S20)) else (if gib a2 12 = true then gbd (fX10_tellOf S20 a1 (S20.1 37 a2.toNatClampNeg) a3) fun r26 S27 => (some (r26, S27)) else none))))))))
set_option maxRecDepth 100000 in
set_option maxHeartbeats 4000000 in
theorem wX10_asked_0 {p : Program} {l : Launch} {e : Env} {s : State} {m : MethodId} {args : Array Value} {below : List Frame} {meth : Method} {c : Code} {E : GE} {res : (Int32 × GS)} (hc : GM E p s m args meth c RX10 cX10_asked 6 (some .int)) : ∀ (S : GS) (a1 : Int32) (a2 : Int32) (a3 : Int32) (a4 : Int32) (a5 : Int32) (H : Heap) (locs : List Loc) (ls : Array Slot), lv_has ls 6 [(0, gR E 0), (1, .int a1), (2, .int a2), (3, .int a3), (4, .int a4), (5, .int a5)] → GX E S H locs → fX10_asked S a1 a2 a3 a4 a5 = some res → W p l e rmX10_asked s m args below meth c H locs 0 0 (gZ E below args s (some (.int res.1)) res.2) (F0 m 0 ls []) := by
  obtain ⟨hx, hb, -, -, -, hown, hts, -, -⟩ := id hc
  intro S a1 a2 a3 a4 a5 H locs ls hl hG h
  unfold fX10_asked at h
  refine lv_aload_n hx hb dX10_asked_0 rfl (lv_at hl 0 rfl) ?_
  refine lv_iload_n hx hb dX10_asked_1 rfl (lv_at hl 1 rfl) ?_
  obtain ⟨r2, hm1, h⟩ := g_bv h
  refine g_callVi (As := [.int a1]) hc hG (mX10_isCase l E hm1) mlX10_136 mcX10_isCase miX10_isCase rfl rfl rfl rfl hl.1 rfl rfl ⟨by decide, by decide⟩ (Nat.le_of_ble_eq_true rfl) ⟨by decide, by decide⟩ dX10_asked_2 rfl (fun H locs hG => ?_)
  refine lv_if_eq (tgt := 42) hx hb dX10_asked_5 (by decide) (fun c3 => ?_) (fun c3 => ?_)
  · have h := g_pos c3 h
    refine lv_iconst (v := (-1 : Int32)) hx hb dX10_asked_42 (by decide) ?_
    exact g_iret hc hG dX10_asked_43 h
  · have h := g_neg c3 h
    refine lv_aload_n hx hb dX10_asked_8 rfl (lv_at hl 0 rfl) ?_
    refine lv_iload_n hx hb dX10_asked_9 rfl (lv_at hl 2 rfl) ?_
    obtain ⟨r5, hm4, h⟩ := g_bv h
    refine g_callVi (As := [.int a2]) hc hG (mX10_isPoint l E hm4) mlX10_116 mcX10_isPoint miX10_isPoint rfl rfl rfl rfl hl.1 rfl rfl ⟨by decide, by decide⟩ (Nat.le_of_ble_eq_true rfl) ⟨by decide, by decide⟩ dX10_asked_10 rfl (fun H locs hG => ?_)
    refine lv_if_eq (tgt := 42) hx hb dX10_asked_13 (by decide) (fun c6 => ?_) (fun c6 => ?_)
    · have h := g_pos c6 h
      refine lv_iconst (v := (-1 : Int32)) hx hb dX10_asked_42 (by decide) ?_
      exact g_iret hc hG dX10_asked_43 h
    · have h := g_neg c6 h
      refine lv_iload_n hx hb dX10_asked_16 rfl (lv_at hl 3 rfl) ?_
      refine lv_if_lt (tgt := 42) hx hb dX10_asked_17 (by decide) (fun c7 => ?_) (fun c7 => ?_)
      · have h := g_pos c7 h
        refine lv_iconst (v := (-1 : Int32)) hx hb dX10_asked_42 (by decide) ?_
        exact g_iret hc hG dX10_asked_43 h
      · have h := g_neg c7 h
        refine lv_iload_n hx hb dX10_asked_20 rfl (lv_at hl 3 rfl) ?_
        refine lv_bipush (v := (6 : Int32)) hx hb dX10_asked_21 (by decide) ?_
        refine lv_icmp_gt (tgt := 42) hx hb dX10_asked_23 (by decide) (fun c8 => ?_) (fun c8 => ?_)
        · have h := g_pos c8 h
          refine lv_iconst (v := (-1 : Int32)) hx hb dX10_asked_42 (by decide) ?_
          exact g_iret hc hG dX10_asked_43 h
        · have h := g_neg c8 h
          refine lv_iload hx hb dX10_asked_26 (lv_at hl 4 rfl) ?_
          obtain ⟨r10, hm9, h⟩ := g_bv h
          refine g_callSi (As := [.int a4]) hc hG (mX10_isDay l E hm9) mlX10_102 mcX10_isDay msX10_isDay rfl hl.1 rfl rfl ⟨by decide, by decide⟩ (Nat.le_of_ble_eq_true rfl) ⟨by decide, by decide⟩ dX10_asked_28 rfl (fun H locs hG => ?_)
          refine lv_if_eq (tgt := 42) hx hb dX10_asked_31 (by decide) (fun c11 => ?_) (fun c11 => ?_)
          · have h := g_pos c11 h
            refine lv_iconst (v := (-1 : Int32)) hx hb dX10_asked_42 (by decide) ?_
            exact g_iret hc hG dX10_asked_43 h
          · have h := g_neg c11 h
            refine lv_iload hx hb dX10_asked_34 (lv_at hl 5 rfl) ?_
            obtain ⟨r13, hm12, h⟩ := g_bv h
            refine g_callSi (As := [.int a5]) hc hG (mX10_isDay l E hm12) mlX10_102 mcX10_isDay msX10_isDay rfl hl.1 rfl rfl ⟨by decide, by decide⟩ (Nat.le_of_ble_eq_true rfl) ⟨by decide, by decide⟩ dX10_asked_36 rfl (fun H locs hG => ?_)
            refine lv_if_ne (tgt := 44) hx hb dX10_asked_39 (by decide) (fun c14 => ?_) (fun c14 => ?_)
            · have h := g_neg c14 h
              refine lv_aload_n hx hb dX10_asked_44 rfl (lv_at hl 0 rfl) ?_
              refine g_getR hc hG 0 35 flX10_70 rfl rfl rfl dX10_asked_45 ?_
              refine lv_aload_n hx hb dX10_asked_48 rfl (lv_at hl 0 rfl) ?_
              refine g_getR hc hG 0 (S.2.2 0) flX10_44 rfl rfl rfl dX10_asked_49 ?_
              refine lv_iload hx hb dX10_asked_52 (lv_at hl 5 rfl) ?_
              refine lv_iconst (v := (-1 : Int32)) hx hb dX10_asked_54 (by decide) ?_
              obtain ⟨r16, S17, hm15, h⟩ := g_bd h
              refine g_callVv (As := [gR E (S.2.2 0), .int a5, .int (-1 : Int32)]) hc hG (mX9_see l E hm15) mlX10_153 mcX9_see miX9_see rfl rfl rfl rfl hl.1 rfl rfl ⟨by decide, by decide⟩ (Nat.le_of_ble_eq_true rfl) ⟨by decide, by decide⟩ dX10_asked_55 rfl (fun H locs hG => ?_)
              refine lv_aload_n hx hb dX10_asked_58 rfl (lv_at hl 0 rfl) ?_
              refine g_getR hc hG 0 35 flX10_70 rfl rfl rfl dX10_asked_59 ?_
              refine lv_iload hx hb dX10_asked_62 (lv_at hl 4 rfl) ?_
              obtain ⟨r19, S20, hm18, h⟩ := g_bd h
              refine g_callVv (As := [.int a4]) hc hG (mX9_goToDay l E hm18) mlX10_157 mcX9_goToDay miX9_goToDay rfl rfl rfl rfl hl.1 rfl rfl ⟨by decide, by decide⟩ (Nat.le_of_ble_eq_true rfl) ⟨by decide, by decide⟩ dX10_asked_64 rfl (fun H locs hG => ?_)
              refine lv_aload_n hx hb dX10_asked_67 rfl (lv_at hl 0 rfl) ?_
              refine g_getR hc hG 0 35 flX10_70 rfl rfl rfl dX10_asked_68 ?_
              refine lv_iload_n hx hb dX10_asked_71 rfl (lv_at hl 1 rfl) ?_
              obtain ⟨r22, hm21, h⟩ := g_bv h
              refine g_callVi (As := [.int a1]) hc hG (mX9_isThere l E hm21) mlX10_174 mcX9_isThere miX9_isThere rfl rfl rfl rfl hl.1 rfl rfl ⟨by decide, by decide⟩ (Nat.le_of_ble_eq_true rfl) ⟨by decide, by decide⟩ dX10_asked_72 rfl (fun H locs hG => ?_)
              refine lv_if_ne (tgt := 80) hx hb dX10_asked_75 (by decide) (fun c23 => ?_) (fun c23 => ?_)
              · have h := g_neg c23 h
                refine lv_aload_n hx hb dX10_asked_80 rfl (lv_at hl 0 rfl) ?_
                refine lv_iload_n hx hb dX10_asked_81 rfl (lv_at hl 1 rfl) ?_
                refine lv_aload_n hx hb dX10_asked_82 rfl (lv_at hl 0 rfl) ?_
                refine g_getR hc hG 0 35 flX10_70 rfl rfl rfl dX10_asked_83 ?_
                refine g_getR hc hG 35 36 flX10_160 rfl rfl rfl dX10_asked_86 ?_
                refine g_getR hc hG 36 37 flX10_164 rfl rfl rfl dX10_asked_89 ?_
                refine lv_iload_n hx hb dX10_asked_92 rfl (lv_at hl 2 rfl) ?_
                obtain ⟨hi24, h⟩ := g_if h
                refine g_iald hc hG 37 12 (a2.toNatClampNeg) rfl rfl hi24 rfl dX10_asked_93 ?_
                refine lv_iload_n hx hb dX10_asked_94 rfl (lv_at hl 3 rfl) ?_
                obtain ⟨r26, S27, hm25, h⟩ := g_bd h
                refine g_callVi (As := [.int a1, .int (S20.1 37 a2.toNatClampNeg), .int a3]) hc hG (mX10_tellOf l E hm25) mlX10_177 mcX10_tellOf miX10_tellOf rfl rfl rfl rfl hl.1 rfl rfl ⟨by decide, by decide⟩ (Nat.le_of_ble_eq_true rfl) ⟨by decide, by decide⟩ dX10_asked_95 rfl (fun H locs hG => ?_)
                exact g_iret hc hG dX10_asked_98 h
              · have h := g_pos c23 h
                refine lv_iconst (v := (-1 : Int32)) hx hb dX10_asked_78 (by decide) ?_
                exact g_iret hc hG dX10_asked_79 h
            · have h := g_pos c14 h
              refine lv_iconst (v := (-1 : Int32)) hx hb dX10_asked_42 (by decide) ?_
              exact g_iret hc hG dX10_asked_43 h
theorem mX10_asked (l : Launch) (E : GE) {S : GS} {a1 : Int32} {a2 : Int32} {a3 : Int32} {a4 : Int32} {a5 : Int32} {res : (Int32 × GS)} (h : fX10_asked S a1 a2 a3 a4 a5 = some res) : gMet l E yX10_asked cX10_asked 6 (some .int) rmX10_asked [gR E 0, .int a1, .int a2, .int a3, .int a4, .int a5] S (some (.int res.1)) res.2 :=
  g_met (by decide) (Nat.le_of_ble_eq_true rfl) rfl fun p e s m below meth c H ls hc hG hl => wX10_asked_0 hc S a1 a2 a3 a4 a5 H [] ls hl hG h
abbrev rmX10_binds : Room := { frames := 7, cells := 0, slots := 0, locals := 179 }
def fX10_binds (S : GS) (a1 : Int32) (a2 : Int32) (a3 : Int32) (a4 : Int32) (a5 : Int32) (a6 : Int32) : Option (Int32 × GS) := gbv (fX10_isCase S a1) fun r2 => (if r2 = 0 then (some ((-1 : Int32), S)) else gbv (fX10_isPoint S a2) fun r5 => (if r5 = 0 then (some ((-1 : Int32), S)) else gbv (fX10_isAskable S a3 a4 a5 a6) fun r8 => (if r8 = 0 then (some ((-1 : Int32), S)) else gbd (fX9_see S (S.2.2 0) a6 (-1 : Int32)) fun r11 S12 => gbd (fX9_goToDay S12 a5) fun r14 S15 => gbv (fX9_isThere S15 a1) fun r17 => (if r17 = 0 then (some ((-1 : Int32), S15)) else (if gib a2 12 = true then gbd (fX9_doesBind S15 a1 (S15.1 37 a2.toNatClampNeg) a3 a4) fun r21 S22 => gbv (fX10_asNumber S22 r21) fun r24 => (some (r24, S22)) else none)))))
set_option maxRecDepth 100000 in
set_option maxHeartbeats 4000000 in
theorem wX10_binds_0 {p : Program} {l : Launch} {e : Env} {s : State} {m : MethodId} {args : Array Value} {below : List Frame} {meth : Method} {c : Code} {E : GE} {res : (Int32 × GS)} (hc : GM E p s m args meth c RX10 cX10_binds 7 (some .int)) : ∀ (S : GS) (a1 : Int32) (a2 : Int32) (a3 : Int32) (a4 : Int32) (a5 : Int32) (a6 : Int32) (H : Heap) (locs : List Loc) (ls : Array Slot), lv_has ls 7 [(0, gR E 0), (1, .int a1), (2, .int a2), (3, .int a3), (4, .int a4), (5, .int a5), (6, .int a6)] → GX E S H locs → fX10_binds S a1 a2 a3 a4 a5 a6 = some res → W p l e rmX10_binds s m args below meth c H locs 0 0 (gZ E below args s (some (.int res.1)) res.2) (F0 m 0 ls []) := by
  obtain ⟨hx, hb, -, -, -, hown, hts, -, -⟩ := id hc
  intro S a1 a2 a3 a4 a5 a6 H locs ls hl hG h
  unfold fX10_binds at h
  refine lv_aload_n hx hb dX10_binds_0 rfl (lv_at hl 0 rfl) ?_
  refine lv_iload_n hx hb dX10_binds_1 rfl (lv_at hl 1 rfl) ?_
  obtain ⟨r2, hm1, h⟩ := g_bv h
  refine g_callVi (As := [.int a1]) hc hG (mX10_isCase l E hm1) mlX10_136 mcX10_isCase miX10_isCase rfl rfl rfl rfl hl.1 rfl rfl ⟨by decide, by decide⟩ (Nat.le_of_ble_eq_true rfl) ⟨by decide, by decide⟩ dX10_binds_2 rfl (fun H locs hG => ?_)
  refine lv_if_eq (tgt := 30) hx hb dX10_binds_5 (by decide) (fun c3 => ?_) (fun c3 => ?_)
  · have h := g_pos c3 h
    refine lv_iconst (v := (-1 : Int32)) hx hb dX10_binds_30 (by decide) ?_
    exact g_iret hc hG dX10_binds_31 h
  · have h := g_neg c3 h
    refine lv_aload_n hx hb dX10_binds_8 rfl (lv_at hl 0 rfl) ?_
    refine lv_iload_n hx hb dX10_binds_9 rfl (lv_at hl 2 rfl) ?_
    obtain ⟨r5, hm4, h⟩ := g_bv h
    refine g_callVi (As := [.int a2]) hc hG (mX10_isPoint l E hm4) mlX10_116 mcX10_isPoint miX10_isPoint rfl rfl rfl rfl hl.1 rfl rfl ⟨by decide, by decide⟩ (Nat.le_of_ble_eq_true rfl) ⟨by decide, by decide⟩ dX10_binds_10 rfl (fun H locs hG => ?_)
    refine lv_if_eq (tgt := 30) hx hb dX10_binds_13 (by decide) (fun c6 => ?_) (fun c6 => ?_)
    · have h := g_pos c6 h
      refine lv_iconst (v := (-1 : Int32)) hx hb dX10_binds_30 (by decide) ?_
      exact g_iret hc hG dX10_binds_31 h
    · have h := g_neg c6 h
      refine lv_aload_n hx hb dX10_binds_16 rfl (lv_at hl 0 rfl) ?_
      refine lv_iload_n hx hb dX10_binds_17 rfl (lv_at hl 3 rfl) ?_
      refine lv_iload hx hb dX10_binds_18 (lv_at hl 4 rfl) ?_
      refine lv_iload hx hb dX10_binds_20 (lv_at hl 5 rfl) ?_
      refine lv_iload hx hb dX10_binds_22 (lv_at hl 6 rfl) ?_
      obtain ⟨r8, hm7, h⟩ := g_bv h
      refine g_callVi (As := [.int a3, .int a4, .int a5, .int a6]) hc hG (mX10_isAskable l E hm7) mlX10_149 mcX10_isAskable miX10_isAskable rfl rfl rfl rfl hl.1 rfl rfl ⟨by decide, by decide⟩ (Nat.le_of_ble_eq_true rfl) ⟨by decide, by decide⟩ dX10_binds_24 rfl (fun H locs hG => ?_)
      refine lv_if_ne (tgt := 32) hx hb dX10_binds_27 (by decide) (fun c9 => ?_) (fun c9 => ?_)
      · have h := g_neg c9 h
        refine lv_aload_n hx hb dX10_binds_32 rfl (lv_at hl 0 rfl) ?_
        refine g_getR hc hG 0 35 flX10_70 rfl rfl rfl dX10_binds_33 ?_
        refine lv_aload_n hx hb dX10_binds_36 rfl (lv_at hl 0 rfl) ?_
        refine g_getR hc hG 0 (S.2.2 0) flX10_44 rfl rfl rfl dX10_binds_37 ?_
        refine lv_iload hx hb dX10_binds_40 (lv_at hl 6 rfl) ?_
        refine lv_iconst (v := (-1 : Int32)) hx hb dX10_binds_42 (by decide) ?_
        obtain ⟨r11, S12, hm10, h⟩ := g_bd h
        refine g_callVv (As := [gR E (S.2.2 0), .int a6, .int (-1 : Int32)]) hc hG (mX9_see l E hm10) mlX10_153 mcX9_see miX9_see rfl rfl rfl rfl hl.1 rfl rfl ⟨by decide, by decide⟩ (Nat.le_of_ble_eq_true rfl) ⟨by decide, by decide⟩ dX10_binds_43 rfl (fun H locs hG => ?_)
        refine lv_aload_n hx hb dX10_binds_46 rfl (lv_at hl 0 rfl) ?_
        refine g_getR hc hG 0 35 flX10_70 rfl rfl rfl dX10_binds_47 ?_
        refine lv_iload hx hb dX10_binds_50 (lv_at hl 5 rfl) ?_
        obtain ⟨r14, S15, hm13, h⟩ := g_bd h
        refine g_callVv (As := [.int a5]) hc hG (mX9_goToDay l E hm13) mlX10_157 mcX9_goToDay miX9_goToDay rfl rfl rfl rfl hl.1 rfl rfl ⟨by decide, by decide⟩ (Nat.le_of_ble_eq_true rfl) ⟨by decide, by decide⟩ dX10_binds_52 rfl (fun H locs hG => ?_)
        refine lv_aload_n hx hb dX10_binds_55 rfl (lv_at hl 0 rfl) ?_
        refine g_getR hc hG 0 35 flX10_70 rfl rfl rfl dX10_binds_56 ?_
        refine lv_iload_n hx hb dX10_binds_59 rfl (lv_at hl 1 rfl) ?_
        obtain ⟨r17, hm16, h⟩ := g_bv h
        refine g_callVi (As := [.int a1]) hc hG (mX9_isThere l E hm16) mlX10_174 mcX9_isThere miX9_isThere rfl rfl rfl rfl hl.1 rfl rfl ⟨by decide, by decide⟩ (Nat.le_of_ble_eq_true rfl) ⟨by decide, by decide⟩ dX10_binds_60 rfl (fun H locs hG => ?_)
        refine lv_if_ne (tgt := 68) hx hb dX10_binds_63 (by decide) (fun c18 => ?_) (fun c18 => ?_)
        · have h := g_neg c18 h
          refine lv_aload_n hx hb dX10_binds_68 rfl (lv_at hl 0 rfl) ?_
          refine g_getR hc hG 0 35 flX10_70 rfl rfl rfl dX10_binds_69 ?_
          refine lv_iload_n hx hb dX10_binds_72 rfl (lv_at hl 1 rfl) ?_
          refine lv_aload_n hx hb dX10_binds_73 rfl (lv_at hl 0 rfl) ?_
          refine g_getR hc hG 0 35 flX10_70 rfl rfl rfl dX10_binds_74 ?_
          refine g_getR hc hG 35 36 flX10_160 rfl rfl rfl dX10_binds_77 ?_
          refine g_getR hc hG 36 37 flX10_164 rfl rfl rfl dX10_binds_80 ?_
          refine lv_iload_n hx hb dX10_binds_83 rfl (lv_at hl 2 rfl) ?_
          obtain ⟨hi19, h⟩ := g_if h
          refine g_iald hc hG 37 12 (a2.toNatClampNeg) rfl rfl hi19 rfl dX10_binds_84 ?_
          refine lv_iload_n hx hb dX10_binds_85 rfl (lv_at hl 3 rfl) ?_
          refine lv_iload hx hb dX10_binds_86 (lv_at hl 4 rfl) ?_
          obtain ⟨r21, S22, hm20, h⟩ := g_bd h
          refine g_callVi (As := [.int a1, .int (S15.1 37 a2.toNatClampNeg), .int a3, .int a4]) hc hG (mX9_doesBind l E hm20) mlX10_180 mcX9_doesBind miX9_doesBind rfl rfl rfl rfl hl.1 rfl rfl ⟨by decide, by decide⟩ (Nat.le_of_ble_eq_true rfl) ⟨by decide, by decide⟩ dX10_binds_88 rfl (fun H locs hG => ?_)
          obtain ⟨r24, hm23, h⟩ := g_bv h
          refine g_callSi (As := [.int r21]) hc hG (mX10_asNumber l E hm23) mlX10_183 mcX10_asNumber msX10_asNumber rfl hl.1 rfl rfl ⟨by decide, by decide⟩ (Nat.le_of_ble_eq_true rfl) ⟨by decide, by decide⟩ dX10_binds_91 rfl (fun H locs hG => ?_)
          exact g_iret hc hG dX10_binds_94 h
        · have h := g_pos c18 h
          refine lv_iconst (v := (-1 : Int32)) hx hb dX10_binds_66 (by decide) ?_
          exact g_iret hc hG dX10_binds_67 h
      · have h := g_pos c9 h
        refine lv_iconst (v := (-1 : Int32)) hx hb dX10_binds_30 (by decide) ?_
        exact g_iret hc hG dX10_binds_31 h
theorem mX10_binds (l : Launch) (E : GE) {S : GS} {a1 : Int32} {a2 : Int32} {a3 : Int32} {a4 : Int32} {a5 : Int32} {a6 : Int32} {res : (Int32 × GS)} (h : fX10_binds S a1 a2 a3 a4 a5 a6 = some res) : gMet l E yX10_binds cX10_binds 7 (some .int) rmX10_binds [gR E 0, .int a1, .int a2, .int a3, .int a4, .int a5, .int a6] S (some (.int res.1)) res.2 :=
  g_met (by decide) (Nat.le_of_ble_eq_true rfl) rfl fun p e s m below meth c H ls hc hG hl => wX10_binds_0 hc S a1 a2 a3 a4 a5 a6 H [] ls hl hG h
abbrev rmX10_areAtPeace : Room := { frames := 1, cells := 0, slots := 0, locals := 21 }
def fX10_areAtPeace_2 : Nat → GS → Int32 → Int32 → Option Int32
  | 0, _, _, _ => none
  | n + 1, S, a1, a2 => (if (S.1 5 0) ≤ a2 then (some (1 : Int32)) else gbv (fX10_has S a1 a2) fun r3 => (if r3 = 0 then glet (a2 + (1 : Int32)) fun v5 => (fX10_areAtPeace_2 n S a1 v5) else (if gib a2 12 = true then (if ((S.1 38 a2.toNatClampNeg) &&& a1) = 0 then glet (a2 + (1 : Int32)) fun v8 => (fX10_areAtPeace_2 n S a1 v8) else (some (0 : Int32))) else none)))
set_option maxRecDepth 100000 in
set_option maxHeartbeats 4000000 in
theorem wX10_areAtPeace_2 {p : Program} {l : Launch} {e : Env} {s : State} {m : MethodId} {args : Array Value} {below : List Frame} {meth : Method} {c : Code} {E : GE} {res : Int32} (hc : GM E p s m args meth c RX10 cX10_areAtPeace 3 (some .boolean)) : ∀ (n : Nat), ∀ (S : GS) (a1 : Int32) (a2 : Int32) (H : Heap) (locs : List Loc) (ls : Array Slot), lv_has ls 3 [(0, gR E 0), (1, .int a1), (2, .int a2)] → GX E S H locs → fX10_areAtPeace_2 n S a1 a2 = some res → W p l e rmX10_areAtPeace s m args below meth c H locs 0 0 (gZ E below args s (some (.int res)) S) (F0 m 2 ls []) := by
  obtain ⟨hx, hb, -, -, -, hown, hts, -, -⟩ := id hc
  intro n
  induction n with
  | zero => intro S a1 a2 H locs ls hl hG h; cases h
  | succ n ih =>
    intro S a1 a2 H locs ls hl hG h
    rw [fX10_areAtPeace_2] at h
    refine lv_iload_n hx hb dX10_areAtPeace_2 rfl (lv_at hl 2 rfl) ?_
    refine lv_aload_n hx hb dX10_areAtPeace_3 rfl (lv_at hl 0 rfl) ?_
    refine g_getR hc hG 0 5 flX10_23 rfl rfl rfl dX10_areAtPeace_4 ?_
    refine g_getI hc hG 5 flX10_113 rfl rfl dX10_areAtPeace_7 ?_
    refine lv_icmp_ge (tgt := 46) hx hb dX10_areAtPeace_10 (by decide) (fun c1 => ?_) (fun c1 => ?_)
    · have h := g_pos c1 h
      refine lv_iconst (v := (1 : Int32)) hx hb dX10_areAtPeace_46 (by decide) ?_
      exact g_zretp hc hG (Or.inr rfl) dX10_areAtPeace_47 h
    · have h := g_neg c1 h
      refine lv_iload_n hx hb dX10_areAtPeace_13 rfl (lv_at hl 1 rfl) ?_
      refine lv_iload_n hx hb dX10_areAtPeace_14 rfl (lv_at hl 2 rfl) ?_
      obtain ⟨r3, hm2, h⟩ := g_bv h
      refine g_callSi (As := [.int a1, .int a2]) hc hG (mX10_has l E hm2) mlX10_256 mcX10_has msX10_has rfl hl.1 rfl rfl ⟨by decide, by decide⟩ (Nat.le_of_ble_eq_true rfl) ⟨by decide, by decide⟩ dX10_areAtPeace_15 rfl (fun H locs hG => ?_)
      refine lv_if_eq (tgt := 40) hx hb dX10_areAtPeace_18 (by decide) (fun c4 => ?_) (fun c4 => ?_)
      · have h := g_pos c4 h
        obtain ⟨v5, ev5⟩ : ∃ y : Int32, y = (a2 + (1 : Int32)) := ⟨_, rfl⟩
        have h := g_let ev5 h
        refine lv_iinc (v := v5) (lv' := [(2, .int v5), (0, gR E 0), (1, .int a1)]) hx hb dX10_areAtPeace_40 hl (k := 2) rfl (by rw [ev5]; rfl) (by decide) rfl (fun ls hl => ?_)
        refine lv_goto (tgt := 2) hx hb dX10_areAtPeace_43 (by decide) ?_
        exact ih S a1 v5 _ _ _ (lv_sub hl [1, 2, 0] rfl) hG h
      · have h := g_neg c4 h
        refine lv_aload_n hx hb dX10_areAtPeace_21 rfl (lv_at hl 0 rfl) ?_
        refine g_getR hc hG 0 35 flX10_70 rfl rfl rfl dX10_areAtPeace_22 ?_
        refine g_getR hc hG 35 36 flX10_160 rfl rfl rfl dX10_areAtPeace_25 ?_
        refine g_getR hc hG 36 38 flX10_270 rfl rfl rfl dX10_areAtPeace_28 ?_
        refine lv_iload_n hx hb dX10_areAtPeace_31 rfl (lv_at hl 2 rfl) ?_
        obtain ⟨hi6, h⟩ := g_if h
        refine g_iald hc hG 38 12 (a2.toNatClampNeg) rfl rfl hi6 rfl dX10_areAtPeace_32 ?_
        refine lv_iload_n hx hb dX10_areAtPeace_33 rfl (lv_at hl 1 rfl) ?_
        refine lv_iand hx hb dX10_areAtPeace_34 ?_
        refine lv_if_eq (tgt := 40) hx hb dX10_areAtPeace_35 (by decide) (fun c7 => ?_) (fun c7 => ?_)
        · have h := g_pos c7 h
          obtain ⟨v8, ev8⟩ : ∃ y : Int32, y = (a2 + (1 : Int32)) := ⟨_, rfl⟩
          have h := g_let ev8 h
          refine lv_iinc (v := v8) (lv' := [(2, .int v8), (0, gR E 0), (1, .int a1)]) hx hb dX10_areAtPeace_40 hl (k := 2) rfl (by rw [ev8]; rfl) (by decide) rfl (fun ls hl => ?_)
          refine lv_goto (tgt := 2) hx hb dX10_areAtPeace_43 (by decide) ?_
          exact ih S a1 v8 _ _ _ (lv_sub hl [1, 2, 0] rfl) hG h
        · have h := g_neg c7 h
          refine lv_iconst (v := (0 : Int32)) hx hb dX10_areAtPeace_38 (by decide) ?_
          exact g_zretp hc hG (Or.inl rfl) dX10_areAtPeace_39 h
def fX10_areAtPeace (S : GS) (a1 : Int32) : Option Int32 := glet (0 : Int32) fun v1 => (fX10_areAtPeace_2 FU S a1 v1)
set_option maxRecDepth 100000 in
set_option maxHeartbeats 4000000 in
theorem wX10_areAtPeace_0 {p : Program} {l : Launch} {e : Env} {s : State} {m : MethodId} {args : Array Value} {below : List Frame} {meth : Method} {c : Code} {E : GE} {res : Int32} (hc : GM E p s m args meth c RX10 cX10_areAtPeace 3 (some .boolean)) : ∀ (S : GS) (a1 : Int32) (H : Heap) (locs : List Loc) (ls : Array Slot), lv_has ls 3 [(0, gR E 0), (1, .int a1)] → GX E S H locs → fX10_areAtPeace S a1 = some res → W p l e rmX10_areAtPeace s m args below meth c H locs 0 0 (gZ E below args s (some (.int res)) S) (F0 m 0 ls []) := by
  obtain ⟨hx, hb, -, -, -, hown, hts, -, -⟩ := id hc
  intro S a1 H locs ls hl hG h
  unfold fX10_areAtPeace at h
  refine lv_iconst (v := (0 : Int32)) hx hb dX10_areAtPeace_0 (by decide) ?_
  refine lv_topi (fun v1 ev1 => ?_)
  have h := g_let ev1 h
  refine lv_istore_n (lv' := [(2, .int v1), (0, gR E 0), (1, .int a1)]) hx hb dX10_areAtPeace_1 rfl hl (by decide) rfl (fun ls hl => ?_)
  exact wX10_areAtPeace_2 hc FU S a1 v1 _ _ _ (lv_sub hl [1, 2, 0] rfl) hG h
theorem mX10_areAtPeace (l : Launch) (E : GE) {S : GS} {a1 : Int32} {res : Int32} (h : fX10_areAtPeace S a1 = some res) : gMet l E yX10_areAtPeace cX10_areAtPeace 3 (some .boolean) rmX10_areAtPeace [gR E 0, .int a1] S (some (.int res)) S :=
  g_met (by decide) (Nat.le_of_ble_eq_true rfl) rfl fun p e s m below meth c H ls hc hG hl => wX10_areAtPeace_0 hc S a1 H [] ls hl hG h
abbrev rmX10_fewestToGiveUp : Room := { frames := 2, cells := 0, slots := 0, locals := 43 }
def fX10_fewestToGiveUp_58 (k13 : GS → Int32 → Int32 → Int32 → Int32 → Int32 → Option Int32) (S : GS) (a1 : Int32) (a2 : Int32) (a3 : Int32) (a4 : Int32) (a5 : Int32) : Option Int32 := glet ((a4 - a1) &&& a1) fun v1 => (if v1 = 0 then (some a2) else glet (a5 + (1 : Int32)) fun v3 => (k13 S a1 a2 a3 v1 v3))
set_option maxRecDepth 100000 in
set_option maxHeartbeats 4000000 in
theorem wX10_fewestToGiveUp_58 {p : Program} {l : Launch} {e : Env} {s : State} {m : MethodId} {args : Array Value} {below : List Frame} {meth : Method} {c : Code} {E : GE} {res : Int32} {k13 : GS → Int32 → Int32 → Int32 → Int32 → Int32 → Option Int32} (hc : GM E p s m args meth c RX10 cX10_fewestToGiveUp 6 (some .int)) (hk13 : ∀ (S : GS) (a1 : Int32) (a2 : Int32) (a3 : Int32) (a4 : Int32) (a5 : Int32) (H : Heap) (locs : List Loc) (ls : Array Slot), lv_has ls 6 [(0, gR E 0), (1, .int a1), (2, .int a2), (3, .int a3), (4, .int a4), (5, .int a5)] → GX E S H locs → k13 S a1 a2 a3 a4 a5 = some res → W p l e rmX10_fewestToGiveUp s m args below meth c H locs 0 0 (gZ E below args s (some (.int res)) S) (F0 m 13 ls [])) : ∀ (S : GS) (a1 : Int32) (a2 : Int32) (a3 : Int32) (a4 : Int32) (a5 : Int32) (H : Heap) (locs : List Loc) (ls : Array Slot), lv_has ls 6 [(0, gR E 0), (1, .int a1), (2, .int a2), (3, .int a3), (4, .int a4), (5, .int a5)] → GX E S H locs → fX10_fewestToGiveUp_58 k13 S a1 a2 a3 a4 a5 = some res → W p l e rmX10_fewestToGiveUp s m args below meth c H locs 0 0 (gZ E below args s (some (.int res)) S) (F0 m 58 ls []) := by
  obtain ⟨hx, hb, -, -, -, hown, hts, -, -⟩ := id hc
  intro S a1 a2 a3 a4 a5 H locs ls hl hG h
  unfold fX10_fewestToGiveUp_58 at h
  refine lv_iload hx hb dX10_fewestToGiveUp_58 (lv_at hl 4 rfl) ?_
  refine lv_iload_n hx hb dX10_fewestToGiveUp_60 rfl (lv_at hl 1 rfl) ?_
  refine lv_isub hx hb dX10_fewestToGiveUp_61 ?_
  refine lv_iload_n hx hb dX10_fewestToGiveUp_62 rfl (lv_at hl 1 rfl) ?_
  refine lv_iand hx hb dX10_fewestToGiveUp_63 ?_
  refine lv_topi (fun v1 ev1 => ?_)
  have h := g_let ev1 h
  refine lv_istore (lv' := [(4, .int v1), (0, gR E 0), (1, .int a1), (2, .int a2), (3, .int a3), (5, .int a5)]) hx hb dX10_fewestToGiveUp_64 hl (by decide) rfl (fun ls hl => ?_)
  refine lv_iload hx hb dX10_fewestToGiveUp_66 (lv_at hl 0 rfl) ?_
  refine lv_if_ne (tgt := 74) hx hb dX10_fewestToGiveUp_68 (by decide) (fun c2 => ?_) (fun c2 => ?_)
  · have h := g_neg c2 h
    obtain ⟨v3, ev3⟩ : ∃ y : Int32, y = (a5 + (1 : Int32)) := ⟨_, rfl⟩
    have h := g_let ev3 h
    refine lv_iinc (v := v3) (lv' := [(5, .int v3), (4, .int v1), (0, gR E 0), (1, .int a1), (2, .int a2), (3, .int a3)]) hx hb dX10_fewestToGiveUp_74 hl (k := 5) rfl (by rw [ev3]; rfl) (by decide) rfl (fun ls hl => ?_)
    refine lv_goto (tgt := 13) hx hb dX10_fewestToGiveUp_77 (by decide) ?_
    exact hk13 S a1 a2 a3 v1 v3 _ _ _ (lv_sub hl [2, 3, 4, 5, 1, 0] rfl) hG h
  · have h := g_pos c2 h
    refine lv_goto (tgt := 80) hx hb dX10_fewestToGiveUp_71 (by decide) ?_
    refine lv_iload_n hx hb dX10_fewestToGiveUp_80 rfl (lv_at hl 3 rfl) ?_
    exact g_iretp hc hG dX10_fewestToGiveUp_81 h
def fX10_fewestToGiveUp_13 : Nat → GS → Int32 → Int32 → Int32 → Int32 → Int32 → Option Int32
  | 0, _, _, _, _, _, _ => none
  | n + 1, S, a1, a2, a3, a4, a5 => (if ((1 : Int32) <<< ((S.1 5 0) &&& 31)) ≤ a5 then (some a2) else gbv (fJ6_bitCount_0f7a4 S a4) fun r3 => (if a3 ≤ r3 then (fX10_fewestToGiveUp_58 (fX10_fewestToGiveUp_13 n) S a1 a2 a3 a4 a5) else gbv (fX10_areAtPeace S (a1 &&& (a4 ^^^ (-1 : Int32)))) fun r6 => (if r6 = 0 then (fX10_fewestToGiveUp_58 (fX10_fewestToGiveUp_13 n) S a1 a2 a3 a4 a5) else gbv (fJ6_bitCount_0f7a4 S a4) fun r9 => (fX10_fewestToGiveUp_58 (fX10_fewestToGiveUp_13 n) S a1 a4 r9 a4 a5))))
set_option maxRecDepth 100000 in
set_option maxHeartbeats 4000000 in
theorem wX10_fewestToGiveUp_13 {p : Program} {l : Launch} {e : Env} {s : State} {m : MethodId} {args : Array Value} {below : List Frame} {meth : Method} {c : Code} {E : GE} {res : Int32} (hc : GM E p s m args meth c RX10 cX10_fewestToGiveUp 6 (some .int)) : ∀ (n : Nat), ∀ (S : GS) (a1 : Int32) (a2 : Int32) (a3 : Int32) (a4 : Int32) (a5 : Int32) (H : Heap) (locs : List Loc) (ls : Array Slot), lv_has ls 6 [(0, gR E 0), (1, .int a1), (2, .int a2), (3, .int a3), (4, .int a4), (5, .int a5)] → GX E S H locs → fX10_fewestToGiveUp_13 n S a1 a2 a3 a4 a5 = some res → W p l e rmX10_fewestToGiveUp s m args below meth c H locs 0 0 (gZ E below args s (some (.int res)) S) (F0 m 13 ls []) := by
  obtain ⟨hx, hb, -, -, -, hown, hts, -, -⟩ := id hc
  intro n
  induction n with
  | zero => intro S a1 a2 a3 a4 a5 H locs ls hl hG h; cases h
  | succ n ih =>
    intro S a1 a2 a3 a4 a5 H locs ls hl hG h
    rw [fX10_fewestToGiveUp_13] at h
    refine lv_iload hx hb dX10_fewestToGiveUp_13 (lv_at hl 5 rfl) ?_
    refine lv_iconst (v := (1 : Int32)) hx hb dX10_fewestToGiveUp_15 (by decide) ?_
    refine lv_aload_n hx hb dX10_fewestToGiveUp_16 rfl (lv_at hl 0 rfl) ?_
    refine g_getR hc hG 0 5 flX10_23 rfl rfl rfl dX10_fewestToGiveUp_17 ?_
    refine g_getI hc hG 5 flX10_113 rfl rfl dX10_fewestToGiveUp_20 ?_
    refine lv_ishl hx hb dX10_fewestToGiveUp_23 ?_
    refine lv_icmp_ge (tgt := 80) hx hb dX10_fewestToGiveUp_24 (by decide) (fun c1 => ?_) (fun c1 => ?_)
    · have h := g_pos c1 h
      refine lv_iload_n hx hb dX10_fewestToGiveUp_80 rfl (lv_at hl 2 rfl) ?_
      exact g_iretp hc hG dX10_fewestToGiveUp_81 h
    · have h := g_neg c1 h
      refine lv_iload hx hb dX10_fewestToGiveUp_27 (lv_at hl 4 rfl) ?_
      obtain ⟨r3, hm2, h⟩ := g_bv h
      refine g_callSi (As := [.int a4]) hc hG (mJ6_bitCount_0f7a4 l E hm2) mlX10_262 mcJ6_bitCount_0f7a4 msJ6_bitCount_0f7a4 rfl hl.1 rfl rfl ⟨by decide, by decide⟩ (Nat.le_of_ble_eq_true rfl) ⟨by decide, by decide⟩ dX10_fewestToGiveUp_29 rfl (fun H locs hG => ?_)
      refine lv_iload_n hx hb dX10_fewestToGiveUp_32 rfl (lv_at hl 3 rfl) ?_
      refine lv_icmp_ge (tgt := 58) hx hb dX10_fewestToGiveUp_33 (by decide) (fun c4 => ?_) (fun c4 => ?_)
      · have h := g_pos c4 h
        exact wX10_fewestToGiveUp_58 hc ih S a1 a2 a3 a4 a5 _ _ _ (lv_sub hl [0, 1, 2, 3, 4, 5] rfl) hG h
      · have h := g_neg c4 h
        refine lv_aload_n hx hb dX10_fewestToGiveUp_36 rfl (lv_at hl 0 rfl) ?_
        refine lv_iload_n hx hb dX10_fewestToGiveUp_37 rfl (lv_at hl 1 rfl) ?_
        refine lv_iload hx hb dX10_fewestToGiveUp_38 (lv_at hl 4 rfl) ?_
        refine lv_iconst (v := (-1 : Int32)) hx hb dX10_fewestToGiveUp_40 (by decide) ?_
        refine lv_ixor hx hb dX10_fewestToGiveUp_41 ?_
        refine lv_iand hx hb dX10_fewestToGiveUp_42 ?_
        obtain ⟨r6, hm5, h⟩ := g_bv h
        refine g_callVi (As := [.int (a1 &&& (a4 ^^^ (-1 : Int32)))]) hc hG (mX10_areAtPeace l E hm5) mlX10_267 mcX10_areAtPeace miX10_areAtPeace rfl rfl rfl rfl hl.1 rfl rfl ⟨by decide, by decide⟩ (Nat.le_of_ble_eq_true rfl) ⟨by decide, by decide⟩ dX10_fewestToGiveUp_43 rfl (fun H locs hG => ?_)
        refine lv_if_eq (tgt := 58) hx hb dX10_fewestToGiveUp_46 (by decide) (fun c7 => ?_) (fun c7 => ?_)
        · have h := g_pos c7 h
          exact wX10_fewestToGiveUp_58 hc ih S a1 a2 a3 a4 a5 _ _ _ (lv_sub hl [0, 1, 2, 3, 4, 5] rfl) hG h
        · have h := g_neg c7 h
          refine lv_iload hx hb dX10_fewestToGiveUp_49 (lv_at hl 4 rfl) ?_
          refine lv_istore_n (lv' := [(2, .int a4), (0, gR E 0), (1, .int a1), (3, .int a3), (4, .int a4), (5, .int a5)]) hx hb dX10_fewestToGiveUp_51 rfl hl (by decide) rfl (fun ls hl => ?_)
          refine lv_iload hx hb dX10_fewestToGiveUp_52 (lv_at hl 4 rfl) ?_
          obtain ⟨r9, hm8, h⟩ := g_bv h
          refine g_callSi (As := [.int a4]) hc hG (mJ6_bitCount_0f7a4 l E hm8) mlX10_262 mcJ6_bitCount_0f7a4 msJ6_bitCount_0f7a4 rfl hl.1 rfl rfl ⟨by decide, by decide⟩ (Nat.le_of_ble_eq_true rfl) ⟨by decide, by decide⟩ dX10_fewestToGiveUp_54 rfl (fun H locs hG => ?_)
          refine lv_istore_n (lv' := [(3, .int r9), (2, .int a4), (0, gR E 0), (1, .int a1), (4, .int a4), (5, .int a5)]) hx hb dX10_fewestToGiveUp_57 rfl hl (by decide) rfl (fun ls hl => ?_)
          exact wX10_fewestToGiveUp_58 hc ih S a1 a4 r9 a4 a5 _ _ _ (lv_sub hl [2, 3, 1, 0, 4, 5] rfl) hG h
def fX10_fewestToGiveUp (S : GS) (a1 : Int32) : Option Int32 := gbv (fJ6_bitCount_0f7a4 S a1) fun r2 => glet (0 : Int32) fun v3 => glet (0 : Int32) fun v4 => (fX10_fewestToGiveUp_13 FU S a1 a1 r2 v3 v4)
set_option maxRecDepth 100000 in
set_option maxHeartbeats 4000000 in
theorem wX10_fewestToGiveUp_0 {p : Program} {l : Launch} {e : Env} {s : State} {m : MethodId} {args : Array Value} {below : List Frame} {meth : Method} {c : Code} {E : GE} {res : Int32} (hc : GM E p s m args meth c RX10 cX10_fewestToGiveUp 6 (some .int)) : ∀ (S : GS) (a1 : Int32) (H : Heap) (locs : List Loc) (ls : Array Slot), lv_has ls 6 [(0, gR E 0), (1, .int a1)] → GX E S H locs → fX10_fewestToGiveUp S a1 = some res → W p l e rmX10_fewestToGiveUp s m args below meth c H locs 0 0 (gZ E below args s (some (.int res)) S) (F0 m 0 ls []) := by
  obtain ⟨hx, hb, -, -, -, hown, hts, -, -⟩ := id hc
  intro S a1 H locs ls hl hG h
  unfold fX10_fewestToGiveUp at h
  refine lv_iload_n hx hb dX10_fewestToGiveUp_0 rfl (lv_at hl 1 rfl) ?_
  refine lv_istore_n (lv' := [(2, .int a1), (0, gR E 0), (1, .int a1)]) hx hb dX10_fewestToGiveUp_1 rfl hl (by decide) rfl (fun ls hl => ?_)
  refine lv_iload_n hx hb dX10_fewestToGiveUp_2 rfl (lv_at hl 2 rfl) ?_
  obtain ⟨r2, hm1, h⟩ := g_bv h
  refine g_callSi (As := [.int a1]) hc hG (mJ6_bitCount_0f7a4 l E hm1) mlX10_262 mcJ6_bitCount_0f7a4 msJ6_bitCount_0f7a4 rfl hl.1 rfl rfl ⟨by decide, by decide⟩ (Nat.le_of_ble_eq_true rfl) ⟨by decide, by decide⟩ dX10_fewestToGiveUp_3 rfl (fun H locs hG => ?_)
  refine lv_istore_n (lv' := [(3, .int r2), (2, .int a1), (0, gR E 0), (1, .int a1)]) hx hb dX10_fewestToGiveUp_6 rfl hl (by decide) rfl (fun ls hl => ?_)
  refine lv_iconst (v := (0 : Int32)) hx hb dX10_fewestToGiveUp_7 (by decide) ?_
  refine lv_topi (fun v3 ev3 => ?_)
  have h := g_let ev3 h
  refine lv_istore (lv' := [(4, .int v3), (3, .int r2), (2, .int a1), (0, gR E 0), (1, .int a1)]) hx hb dX10_fewestToGiveUp_8 hl (by decide) rfl (fun ls hl => ?_)
  refine lv_iconst (v := (0 : Int32)) hx hb dX10_fewestToGiveUp_10 (by decide) ?_
  refine lv_topi (fun v4 ev4 => ?_)
  have h := g_let ev4 h
  refine lv_istore (lv' := [(5, .int v4), (4, .int v3), (3, .int r2), (2, .int a1), (0, gR E 0), (1, .int a1)]) hx hb dX10_fewestToGiveUp_11 hl (by decide) rfl (fun ls hl => ?_)
  exact wX10_fewestToGiveUp_13 hc FU S a1 a1 r2 v3 v4 _ _ _ (lv_sub hl [4, 5, 3, 2, 1, 0] rfl) hG h
theorem mX10_fewestToGiveUp (l : Launch) (E : GE) {S : GS} {a1 : Int32} {res : Int32} (h : fX10_fewestToGiveUp S a1 = some res) : gMet l E yX10_fewestToGiveUp cX10_fewestToGiveUp 6 (some .int) rmX10_fewestToGiveUp [gR E 0, .int a1] S (some (.int res)) S :=
  g_met (by decide) (Nat.le_of_ble_eq_true rfl) rfl fun p e s m below meth c H ls hc hG hl => wX10_fewestToGiveUp_0 hc S a1 H [] ls hl hG h
abbrev rmX10_quarrel : Room := { frames := 7, cells := 0, slots := 0, locals := 179 }
def fX10_quarrel_42 : Nat → GS → Int32 → Int32 → Int32 → Int32 → Option (Int32 × GS)
  | 0, _, _, _, _, _ => none
  | n + 1, S, a1, a2, a5, a6 => (if (S.1 5 0) ≤ a6 then gbv (fX10_fewestToGiveUp S a5) fun r3 => (some (r3, S)) else (if gib a6 12 = true then (if (S.1 37 a6.toNatClampNeg) = a6 then gbd (fX9_standOf S a6 a1 a2) fun r8 S9 => (if r8 < (3 : Int32) then glet (a6 + (1 : Int32)) fun v11 => (fX10_quarrel_42 n S9 a1 a2 a5 v11) else glet (a5 ||| ((1 : Int32) <<< (a6 &&& 31))) fun v12 => glet (a6 + (1 : Int32)) fun v13 => (fX10_quarrel_42 n S9 a1 a2 v12 v13)) else glet (a6 + (1 : Int32)) fun v6 => (fX10_quarrel_42 n S a1 a2 a5 v6)) else none))
set_option maxRecDepth 100000 in
set_option maxHeartbeats 4000000 in
theorem wX10_quarrel_42 {p : Program} {l : Launch} {e : Env} {s : State} {m : MethodId} {args : Array Value} {below : List Frame} {meth : Method} {c : Code} {E : GE} {res : (Int32 × GS)} (hc : GM E p s m args meth c RX10 cX10_quarrel 7 (some .int)) : ∀ (n : Nat), ∀ (S : GS) (a1 : Int32) (a2 : Int32) (a5 : Int32) (a6 : Int32) (H : Heap) (locs : List Loc) (ls : Array Slot), lv_has ls 7 [(0, gR E 0), (1, .int a1), (2, .int a2), (5, .int a5), (6, .int a6)] → GX E S H locs → fX10_quarrel_42 n S a1 a2 a5 a6 = some res → W p l e rmX10_quarrel s m args below meth c H locs 0 0 (gZ E below args s (some (.int res.1)) res.2) (F0 m 42 ls []) := by
  obtain ⟨hx, hb, -, -, -, hown, hts, -, -⟩ := id hc
  intro n
  induction n with
  | zero => intro S a1 a2 a5 a6 H locs ls hl hG h; cases h
  | succ n ih =>
    intro S a1 a2 a5 a6 H locs ls hl hG h
    rw [fX10_quarrel_42] at h
    refine lv_iload hx hb dX10_quarrel_42 (lv_at hl 4 rfl) ?_
    refine lv_aload_n hx hb dX10_quarrel_44 rfl (lv_at hl 0 rfl) ?_
    refine g_getR hc hG 0 5 flX10_23 rfl rfl rfl dX10_quarrel_45 ?_
    refine g_getI hc hG 5 flX10_113 rfl rfl dX10_quarrel_48 ?_
    refine lv_icmp_ge (tgt := 102) hx hb dX10_quarrel_51 (by decide) (fun c1 => ?_) (fun c1 => ?_)
    · have h := g_pos c1 h
      refine lv_aload_n hx hb dX10_quarrel_102 rfl (lv_at hl 0 rfl) ?_
      refine lv_iload hx hb dX10_quarrel_103 (lv_at hl 3 rfl) ?_
      obtain ⟨r3, hm2, h⟩ := g_bv h
      refine g_callVi (As := [.int a5]) hc hG (mX10_fewestToGiveUp l E hm2) mlX10_187 mcX10_fewestToGiveUp miX10_fewestToGiveUp rfl rfl rfl rfl hl.1 rfl rfl ⟨by decide, by decide⟩ (Nat.le_of_ble_eq_true rfl) ⟨by decide, by decide⟩ dX10_quarrel_105 rfl (fun H locs hG => ?_)
      exact g_iret hc hG dX10_quarrel_108 h
    · have h := g_neg c1 h
      refine lv_aload_n hx hb dX10_quarrel_54 rfl (lv_at hl 0 rfl) ?_
      refine g_getR hc hG 0 35 flX10_70 rfl rfl rfl dX10_quarrel_55 ?_
      refine g_getR hc hG 35 36 flX10_160 rfl rfl rfl dX10_quarrel_58 ?_
      refine g_getR hc hG 36 37 flX10_164 rfl rfl rfl dX10_quarrel_61 ?_
      refine lv_iload hx hb dX10_quarrel_64 (lv_at hl 4 rfl) ?_
      obtain ⟨hi4, h⟩ := g_if h
      refine g_iald hc hG 37 12 (a6.toNatClampNeg) rfl rfl hi4 rfl dX10_quarrel_66 ?_
      refine lv_iload hx hb dX10_quarrel_67 (lv_at hl 4 rfl) ?_
      refine lv_icmp_ne (tgt := 96) hx hb dX10_quarrel_69 (by decide) (fun c5 => ?_) (fun c5 => ?_)
      · have h := g_neg c5 h
        obtain ⟨v6, ev6⟩ : ∃ y : Int32, y = (a6 + (1 : Int32)) := ⟨_, rfl⟩
        have h := g_let ev6 h
        refine lv_iinc (v := v6) (lv' := [(6, .int v6), (0, gR E 0), (1, .int a1), (2, .int a2), (5, .int a5)]) hx hb dX10_quarrel_96 hl (k := 4) rfl (by rw [ev6]; rfl) (by decide) rfl (fun ls hl => ?_)
        refine lv_goto (tgt := 42) hx hb dX10_quarrel_99 (by decide) ?_
        exact ih S a1 a2 a5 v6 _ _ _ (lv_sub hl [1, 2, 3, 4, 0] rfl) hG h
      · have h := g_pos c5 h
        refine lv_aload_n hx hb dX10_quarrel_72 rfl (lv_at hl 0 rfl) ?_
        refine g_getR hc hG 0 35 flX10_70 rfl rfl rfl dX10_quarrel_73 ?_
        refine lv_iload hx hb dX10_quarrel_76 (lv_at hl 4 rfl) ?_
        refine lv_iload_n hx hb dX10_quarrel_78 rfl (lv_at hl 1 rfl) ?_
        refine lv_iload_n hx hb dX10_quarrel_79 rfl (lv_at hl 2 rfl) ?_
        obtain ⟨r8, S9, hm7, h⟩ := g_bd h
        refine g_callVi (As := [.int a6, .int a1, .int a2]) hc hG (mX9_standOf l E hm7) mlX10_167 mcX9_standOf miX9_standOf rfl rfl rfl rfl hl.1 rfl rfl ⟨by decide, by decide⟩ (Nat.le_of_ble_eq_true rfl) ⟨by decide, by decide⟩ dX10_quarrel_80 rfl (fun H locs hG => ?_)
        refine lv_iconst (v := (3 : Int32)) hx hb dX10_quarrel_83 (by decide) ?_
        refine lv_icmp_lt (tgt := 96) hx hb dX10_quarrel_84 (by decide) (fun c10 => ?_) (fun c10 => ?_)
        · have h := g_pos c10 h
          obtain ⟨v11, ev11⟩ : ∃ y : Int32, y = (a6 + (1 : Int32)) := ⟨_, rfl⟩
          have h := g_let ev11 h
          refine lv_iinc (v := v11) (lv' := [(6, .int v11), (0, gR E 0), (1, .int a1), (2, .int a2), (5, .int a5)]) hx hb dX10_quarrel_96 hl (k := 4) rfl (by rw [ev11]; rfl) (by decide) rfl (fun ls hl => ?_)
          refine lv_goto (tgt := 42) hx hb dX10_quarrel_99 (by decide) ?_
          exact ih S9 a1 a2 a5 v11 _ _ _ (lv_sub hl [1, 2, 3, 4, 0] rfl) hG h
        · have h := g_neg c10 h
          refine lv_iload hx hb dX10_quarrel_87 (lv_at hl 3 rfl) ?_
          refine lv_iconst (v := (1 : Int32)) hx hb dX10_quarrel_89 (by decide) ?_
          refine lv_iload hx hb dX10_quarrel_90 (lv_at hl 4 rfl) ?_
          refine lv_ishl hx hb dX10_quarrel_92 ?_
          refine lv_ior hx hb dX10_quarrel_93 ?_
          refine lv_topi (fun v12 ev12 => ?_)
          have h := g_let ev12 h
          refine lv_istore (lv' := [(5, .int v12), (0, gR E 0), (1, .int a1), (2, .int a2), (6, .int a6)]) hx hb dX10_quarrel_94 hl (by decide) rfl (fun ls hl => ?_)
          obtain ⟨v13, ev13⟩ : ∃ y : Int32, y = (a6 + (1 : Int32)) := ⟨_, rfl⟩
          have h := g_let ev13 h
          refine lv_iinc (v := v13) (lv' := [(6, .int v13), (5, .int v12), (0, gR E 0), (1, .int a1), (2, .int a2)]) hx hb dX10_quarrel_96 hl (k := 4) rfl (by rw [ev13]; rfl) (by decide) rfl (fun ls hl => ?_)
          refine lv_goto (tgt := 42) hx hb dX10_quarrel_99 (by decide) ?_
          exact ih S9 a1 a2 v12 v13 _ _ _ (lv_sub hl [2, 3, 4, 1, 0] rfl) hG h
def fX10_quarrel (S : GS) (a1 : Int32) (a2 : Int32) (a3 : Int32) (a4 : Int32) : Option (Int32 × GS) := gbv (fX10_isAskable S a1 a2 a3 a4) fun r2 => (if r2 = 0 then (some ((-1 : Int32), S)) else gbd (fX9_see S (S.2.2 0) a4 (-1 : Int32)) fun r5 S6 => gbd (fX9_goToDay S6 a3) fun r8 S9 => glet (0 : Int32) fun v10 => glet (0 : Int32) fun v11 => (fX10_quarrel_42 FU S9 a1 a2 v10 v11))
set_option maxRecDepth 100000 in
set_option maxHeartbeats 4000000 in
theorem wX10_quarrel_0 {p : Program} {l : Launch} {e : Env} {s : State} {m : MethodId} {args : Array Value} {below : List Frame} {meth : Method} {c : Code} {E : GE} {res : (Int32 × GS)} (hc : GM E p s m args meth c RX10 cX10_quarrel 7 (some .int)) : ∀ (S : GS) (a1 : Int32) (a2 : Int32) (a3 : Int32) (a4 : Int32) (H : Heap) (locs : List Loc) (ls : Array Slot), lv_has ls 7 [(0, gR E 0), (1, .int a1), (2, .int a2), (3, .int a3), (4, .int a4)] → GX E S H locs → fX10_quarrel S a1 a2 a3 a4 = some res → W p l e rmX10_quarrel s m args below meth c H locs 0 0 (gZ E below args s (some (.int res.1)) res.2) (F0 m 0 ls []) := by
  obtain ⟨hx, hb, -, -, -, hown, hts, -, -⟩ := id hc
  intro S a1 a2 a3 a4 H locs ls hl hG h
  unfold fX10_quarrel at h
  refine lv_aload_n hx hb dX10_quarrel_0 rfl (lv_at hl 0 rfl) ?_
  refine lv_iload_n hx hb dX10_quarrel_1 rfl (lv_at hl 1 rfl) ?_
  refine lv_iload_n hx hb dX10_quarrel_2 rfl (lv_at hl 2 rfl) ?_
  refine lv_iload_n hx hb dX10_quarrel_3 rfl (lv_at hl 3 rfl) ?_
  refine lv_iload hx hb dX10_quarrel_4 (lv_at hl 4 rfl) ?_
  obtain ⟨r2, hm1, h⟩ := g_bv h
  refine g_callVi (As := [.int a1, .int a2, .int a3, .int a4]) hc hG (mX10_isAskable l E hm1) mlX10_149 mcX10_isAskable miX10_isAskable rfl rfl rfl rfl hl.1 rfl rfl ⟨by decide, by decide⟩ (Nat.le_of_ble_eq_true rfl) ⟨by decide, by decide⟩ dX10_quarrel_6 rfl (fun H locs hG => ?_)
  refine lv_if_ne (tgt := 14) hx hb dX10_quarrel_9 (by decide) (fun c3 => ?_) (fun c3 => ?_)
  · have h := g_neg c3 h
    refine lv_aload_n hx hb dX10_quarrel_14 rfl (lv_at hl 0 rfl) ?_
    refine g_getR hc hG 0 35 flX10_70 rfl rfl rfl dX10_quarrel_15 ?_
    refine lv_aload_n hx hb dX10_quarrel_18 rfl (lv_at hl 0 rfl) ?_
    refine g_getR hc hG 0 (S.2.2 0) flX10_44 rfl rfl rfl dX10_quarrel_19 ?_
    refine lv_iload hx hb dX10_quarrel_22 (lv_at hl 4 rfl) ?_
    refine lv_iconst (v := (-1 : Int32)) hx hb dX10_quarrel_24 (by decide) ?_
    obtain ⟨r5, S6, hm4, h⟩ := g_bd h
    refine g_callVv (As := [gR E (S.2.2 0), .int a4, .int (-1 : Int32)]) hc hG (mX9_see l E hm4) mlX10_153 mcX9_see miX9_see rfl rfl rfl rfl hl.1 rfl rfl ⟨by decide, by decide⟩ (Nat.le_of_ble_eq_true rfl) ⟨by decide, by decide⟩ dX10_quarrel_25 rfl (fun H locs hG => ?_)
    refine lv_aload_n hx hb dX10_quarrel_28 rfl (lv_at hl 0 rfl) ?_
    refine g_getR hc hG 0 35 flX10_70 rfl rfl rfl dX10_quarrel_29 ?_
    refine lv_iload_n hx hb dX10_quarrel_32 rfl (lv_at hl 3 rfl) ?_
    obtain ⟨r8, S9, hm7, h⟩ := g_bd h
    refine g_callVv (As := [.int a3]) hc hG (mX9_goToDay l E hm7) mlX10_157 mcX9_goToDay miX9_goToDay rfl rfl rfl rfl hl.1 rfl rfl ⟨by decide, by decide⟩ (Nat.le_of_ble_eq_true rfl) ⟨by decide, by decide⟩ dX10_quarrel_33 rfl (fun H locs hG => ?_)
    refine lv_iconst (v := (0 : Int32)) hx hb dX10_quarrel_36 (by decide) ?_
    refine lv_topi (fun v10 ev10 => ?_)
    have h := g_let ev10 h
    refine lv_istore (lv' := [(5, .int v10), (0, gR E 0), (1, .int a1), (2, .int a2), (3, .int a3), (4, .int a4)]) hx hb dX10_quarrel_37 hl (by decide) rfl (fun ls hl => ?_)
    refine lv_iconst (v := (0 : Int32)) hx hb dX10_quarrel_39 (by decide) ?_
    refine lv_topi (fun v11 ev11 => ?_)
    have h := g_let ev11 h
    refine lv_istore (lv' := [(6, .int v11), (5, .int v10), (0, gR E 0), (1, .int a1), (2, .int a2), (3, .int a3), (4, .int a4)]) hx hb dX10_quarrel_40 hl (by decide) rfl (fun ls hl => ?_)
    exact wX10_quarrel_42 hc FU S9 a1 a2 v10 v11 _ _ _ (lv_sub hl [2, 3, 4, 1, 0] rfl) hG h
  · have h := g_pos c3 h
    refine lv_iconst (v := (-1 : Int32)) hx hb dX10_quarrel_12 (by decide) ?_
    exact g_iret hc hG dX10_quarrel_13 h
theorem mX10_quarrel (l : Launch) (E : GE) {S : GS} {a1 : Int32} {a2 : Int32} {a3 : Int32} {a4 : Int32} {res : (Int32 × GS)} (h : fX10_quarrel S a1 a2 a3 a4 = some res) : gMet l E yX10_quarrel cX10_quarrel 7 (some .int) rmX10_quarrel [gR E 0, .int a1, .int a2, .int a3, .int a4] S (some (.int res.1)) res.2 :=
  g_met (by decide) (Nat.le_of_ble_eq_true rfl) rfl fun p e s m below meth c H ls hc hG hl => wX10_quarrel_0 hc S a1 a2 a3 a4 H [] ls hl hG h
abbrev rmX10_forgotten : Room := { frames := 7, cells := 0, slots := 0, locals := 179 }
def fX10_forgotten (S : GS) (a1 : Int32) (a2 : Int32) : Option (Int32 × GS) := gbv (fX10_isCase S a1) fun r2 => (if r2 = 0 then (some ((0 : Int32), S)) else gbv (fX10_isDay S a2) fun r5 => (if r5 = 0 then (some ((0 : Int32), S)) else gbd (fX9_see S (S.2.2 0) a2 (-1 : Int32)) fun r8 S9 => gbv (fX3_sees S9 a1) fun r11 => (if r11 = 0 then (some ((0 : Int32), S9)) else (if gib a1 32 = true then (some ((S9.1 49 a1.toNatClampNeg), S9)) else none))))
set_option maxRecDepth 100000 in
set_option maxHeartbeats 4000000 in
theorem wX10_forgotten_0 {p : Program} {l : Launch} {e : Env} {s : State} {m : MethodId} {args : Array Value} {below : List Frame} {meth : Method} {c : Code} {E : GE} {res : (Int32 × GS)} (hc : GM E p s m args meth c RX10 cX10_forgotten 3 (some .int)) : ∀ (S : GS) (a1 : Int32) (a2 : Int32) (H : Heap) (locs : List Loc) (ls : Array Slot), lv_has ls 3 [(0, gR E 0), (1, .int a1), (2, .int a2)] → GX E S H locs → fX10_forgotten S a1 a2 = some res → W p l e rmX10_forgotten s m args below meth c H locs 0 0 (gZ E below args s (some (.int res.1)) res.2) (F0 m 0 ls []) := by
  obtain ⟨hx, hb, -, -, -, hown, hts, -, -⟩ := id hc
  intro S a1 a2 H locs ls hl hG h
  unfold fX10_forgotten at h
  refine lv_aload_n hx hb dX10_forgotten_0 rfl (lv_at hl 0 rfl) ?_
  refine lv_iload_n hx hb dX10_forgotten_1 rfl (lv_at hl 1 rfl) ?_
  obtain ⟨r2, hm1, h⟩ := g_bv h
  refine g_callVi (As := [.int a1]) hc hG (mX10_isCase l E hm1) mlX10_136 mcX10_isCase miX10_isCase rfl rfl rfl rfl hl.1 rfl rfl ⟨by decide, by decide⟩ (Nat.le_of_ble_eq_true rfl) ⟨by decide, by decide⟩ dX10_forgotten_2 rfl (fun H locs hG => ?_)
  refine lv_if_eq (tgt := 15) hx hb dX10_forgotten_5 (by decide) (fun c3 => ?_) (fun c3 => ?_)
  · have h := g_pos c3 h
    refine lv_iconst (v := (0 : Int32)) hx hb dX10_forgotten_15 (by decide) ?_
    exact g_iret hc hG dX10_forgotten_16 h
  · have h := g_neg c3 h
    refine lv_iload_n hx hb dX10_forgotten_8 rfl (lv_at hl 2 rfl) ?_
    obtain ⟨r5, hm4, h⟩ := g_bv h
    refine g_callSi (As := [.int a2]) hc hG (mX10_isDay l E hm4) mlX10_102 mcX10_isDay msX10_isDay rfl hl.1 rfl rfl ⟨by decide, by decide⟩ (Nat.le_of_ble_eq_true rfl) ⟨by decide, by decide⟩ dX10_forgotten_9 rfl (fun H locs hG => ?_)
    refine lv_if_ne (tgt := 17) hx hb dX10_forgotten_12 (by decide) (fun c6 => ?_) (fun c6 => ?_)
    · have h := g_neg c6 h
      refine lv_aload_n hx hb dX10_forgotten_17 rfl (lv_at hl 0 rfl) ?_
      refine g_getR hc hG 0 35 flX10_70 rfl rfl rfl dX10_forgotten_18 ?_
      refine lv_aload_n hx hb dX10_forgotten_21 rfl (lv_at hl 0 rfl) ?_
      refine g_getR hc hG 0 (S.2.2 0) flX10_44 rfl rfl rfl dX10_forgotten_22 ?_
      refine lv_iload_n hx hb dX10_forgotten_25 rfl (lv_at hl 2 rfl) ?_
      refine lv_iconst (v := (-1 : Int32)) hx hb dX10_forgotten_26 (by decide) ?_
      obtain ⟨r8, S9, hm7, h⟩ := g_bd h
      refine g_callVv (As := [gR E (S.2.2 0), .int a2, .int (-1 : Int32)]) hc hG (mX9_see l E hm7) mlX10_153 mcX9_see miX9_see rfl rfl rfl rfl hl.1 rfl rfl ⟨by decide, by decide⟩ (Nat.le_of_ble_eq_true rfl) ⟨by decide, by decide⟩ dX10_forgotten_27 rfl (fun H locs hG => ?_)
      refine lv_aload_n hx hb dX10_forgotten_30 rfl (lv_at hl 0 rfl) ?_
      refine g_getR hc hG 0 35 flX10_70 rfl rfl rfl dX10_forgotten_31 ?_
      refine g_getR hc hG 35 36 flX10_160 rfl rfl rfl dX10_forgotten_34 ?_
      refine lv_iload_n hx hb dX10_forgotten_37 rfl (lv_at hl 1 rfl) ?_
      obtain ⟨r11, hm10, h⟩ := g_bv h
      refine g_callVi (As := [.int a1]) hc hG (mX3_sees l E hm10) mlX10_191 mcX3_sees miX3_sees rfl rfl rfl rfl hl.1 rfl rfl ⟨by decide, by decide⟩ (Nat.le_of_ble_eq_true rfl) ⟨by decide, by decide⟩ dX10_forgotten_38 rfl (fun H locs hG => ?_)
      refine lv_if_eq (tgt := 56) hx hb dX10_forgotten_41 (by decide) (fun c12 => ?_) (fun c12 => ?_)
      · have h := g_pos c12 h
        refine lv_iconst (v := (0 : Int32)) hx hb dX10_forgotten_56 (by decide) ?_
        exact g_iret hc hG dX10_forgotten_57 h
      · have h := g_neg c12 h
        refine lv_aload_n hx hb dX10_forgotten_44 rfl (lv_at hl 0 rfl) ?_
        refine g_getR hc hG 0 35 flX10_70 rfl rfl rfl dX10_forgotten_45 ?_
        refine g_getR hc hG 35 49 flX10_194 rfl rfl rfl dX10_forgotten_48 ?_
        refine lv_iload_n hx hb dX10_forgotten_51 rfl (lv_at hl 1 rfl) ?_
        obtain ⟨hi13, h⟩ := g_if h
        refine g_iald hc hG 49 32 (a1.toNatClampNeg) rfl rfl hi13 rfl dX10_forgotten_52 ?_
        refine lv_goto (tgt := 57) hx hb dX10_forgotten_53 (by decide) ?_
        exact g_iret hc hG dX10_forgotten_57 h
    · have h := g_pos c6 h
      refine lv_iconst (v := (0 : Int32)) hx hb dX10_forgotten_15 (by decide) ?_
      exact g_iret hc hG dX10_forgotten_16 h
theorem mX10_forgotten (l : Launch) (E : GE) {S : GS} {a1 : Int32} {a2 : Int32} {res : (Int32 × GS)} (h : fX10_forgotten S a1 a2 = some res) : gMet l E yX10_forgotten cX10_forgotten 3 (some .int) rmX10_forgotten [gR E 0, .int a1, .int a2] S (some (.int res.1)) res.2 :=
  g_met (by decide) (Nat.le_of_ble_eq_true rfl) rfl fun p e s m below meth c H ls hc hG hl => wX10_forgotten_0 hc S a1 a2 H [] ls hl hG h
abbrev rmX10_mark : Room := { frames := 0, cells := 0, slots := 0, locals := 0 }
def fX10_mark (S : GS) (a1 : Int32) : Option (Unit × GS) := (if gib (a1 >>> ((5 : Int32) &&& 31)) 32 = true then glet (gsi S 53 (((a1 >>> ((5 : Int32) &&& 31))).toNatClampNeg) ((S.1 53 ((a1 >>> ((5 : Int32) &&& 31))).toNatClampNeg) ||| ((1 : Int32) <<< ((a1 &&& (31 : Int32)) &&& 31)))) fun S2 => (some ((), S2)) else none)
set_option maxRecDepth 100000 in
set_option maxHeartbeats 4000000 in
theorem wX10_mark_0 {p : Program} {l : Launch} {e : Env} {s : State} {m : MethodId} {args : Array Value} {below : List Frame} {meth : Method} {c : Code} {E : GE} {res : (Unit × GS)} (hc : GM E p s m args meth c RX10 cX10_mark 2 none) : ∀ (S : GS) (a1 : Int32) (H : Heap) (locs : List Loc) (ls : Array Slot), lv_has ls 2 [(0, gR E 0), (1, .int a1)] → GX E S H locs → fX10_mark S a1 = some res → W p l e rmX10_mark s m args below meth c H locs 0 0 (gZ E below args s none res.2) (F0 m 0 ls []) := by
  obtain ⟨hx, hb, -, -, -, hown, hts, -, -⟩ := id hc
  intro S a1 H locs ls hl hG h
  unfold fX10_mark at h
  refine lv_aload_n hx hb dX10_mark_0 rfl (lv_at hl 0 rfl) ?_
  refine g_getR hc hG 0 53 flX10_78 rfl rfl rfl dX10_mark_1 ?_
  refine lv_iload_n hx hb dX10_mark_4 rfl (lv_at hl 1 rfl) ?_
  refine lv_iconst (v := (5 : Int32)) hx hb dX10_mark_5 (by decide) ?_
  refine lv_ishr hx hb dX10_mark_6 ?_
  refine lv_dup2_11 hx hb dX10_mark_7 rfl rfl ?_
  obtain ⟨hi1, h⟩ := g_if h
  refine g_iald hc hG 53 32 (((a1 >>> ((5 : Int32) &&& 31))).toNatClampNeg) rfl rfl hi1 rfl dX10_mark_8 ?_
  refine lv_iconst (v := (1 : Int32)) hx hb dX10_mark_9 (by decide) ?_
  refine lv_iload_n hx hb dX10_mark_10 rfl (lv_at hl 1 rfl) ?_
  refine lv_bipush (v := (31 : Int32)) hx hb dX10_mark_11 (by decide) ?_
  refine lv_iand hx hb dX10_mark_13 ?_
  refine lv_ishl hx hb dX10_mark_14 ?_
  refine lv_ior hx hb dX10_mark_15 ?_
  refine g_iast hc hG 53 32 (((a1 >>> ((5 : Int32) &&& 31))).toNatClampNeg) rfl rfl hi1 rfl dX10_mark_16 (fun S2 H locs eS2 hG => ?_)
  have h := g_let eS2 h
  exact g_vret hc hG dX10_mark_17 h
theorem mX10_mark (l : Launch) (E : GE) {S : GS} {a1 : Int32} {res : (Unit × GS)} (h : fX10_mark S a1 = some res) : gMet l E yX10_mark cX10_mark 2 none rmX10_mark [gR E 0, .int a1] S none res.2 :=
  g_met (by decide) (Nat.le_of_ble_eq_true rfl) rfl fun p e s m below meth c H ls hc hG hl => wX10_mark_0 hc S a1 H [] ls hl hG h
abbrev rmX10_spreadMarks : Room := { frames := 1, cells := 0, slots := 0, locals := 21 }
def fX10_spreadMarks_10 (k2 : GS → Int32 → Option (Unit × GS)) : Nat → GS → Int32 → Int32 → Option (Unit × GS)
  | 0, _, _, _ => none
  | n + 1, S, a1, a2 => (if (5 : Int32) ≤ a2 then glet (a1 + (1 : Int32)) fun v2 => (k2 S v2) else (if gib a1 32 = true then (if gib a2 5 = true then glet (gsi S 53 (a1.toNatClampNeg) ((S.1 53 a1.toNatClampNeg) ||| (((S.1 53 a1.toNatClampNeg) &&& (gsw a2)) <<< (((1 : Int32) <<< (a2 &&& 31)) &&& 31)))) fun S5 => glet (a2 + (1 : Int32)) fun v6 => (fX10_spreadMarks_10 k2 n S5 a1 v6) else none) else none))
set_option maxRecDepth 100000 in
set_option maxHeartbeats 4000000 in
theorem wX10_spreadMarks_10 {p : Program} {l : Launch} {e : Env} {s : State} {m : MethodId} {args : Array Value} {below : List Frame} {meth : Method} {c : Code} {E : GE} {res : (Unit × GS)} {k2 : GS → Int32 → Option (Unit × GS)} (hc : GM E p s m args meth c RX10 cX10_spreadMarks 3 none) (hk2 : ∀ (S : GS) (a1 : Int32) (H : Heap) (locs : List Loc) (ls : Array Slot), lv_has ls 3 [(0, gR E 0), (1, .int a1)] → GX E S H locs → k2 S a1 = some res → W p l e rmX10_spreadMarks s m args below meth c H locs 0 0 (gZ E below args s none res.2) (F0 m 2 ls [])) : ∀ (n : Nat), ∀ (S : GS) (a1 : Int32) (a2 : Int32) (H : Heap) (locs : List Loc) (ls : Array Slot), lv_has ls 3 [(0, gR E 0), (1, .int a1), (2, .int a2)] → GX E S H locs → fX10_spreadMarks_10 k2 n S a1 a2 = some res → W p l e rmX10_spreadMarks s m args below meth c H locs 0 0 (gZ E below args s none res.2) (F0 m 10 ls []) := by
  obtain ⟨hx, hb, -, -, -, hown, hts, -, -⟩ := id hc
  intro n
  induction n with
  | zero => intro S a1 a2 H locs ls hl hG h; cases h
  | succ n ih =>
    intro S a1 a2 H locs ls hl hG h
    rw [fX10_spreadMarks_10] at h
    refine lv_iload_n hx hb dX10_spreadMarks_10 rfl (lv_at hl 2 rfl) ?_
    refine lv_iconst (v := (5 : Int32)) hx hb dX10_spreadMarks_11 (by decide) ?_
    refine lv_icmp_ge (tgt := 46) hx hb dX10_spreadMarks_12 (by decide) (fun c1 => ?_) (fun c1 => ?_)
    · have h := g_pos c1 h
      obtain ⟨v2, ev2⟩ : ∃ y : Int32, y = (a1 + (1 : Int32)) := ⟨_, rfl⟩
      have h := g_let ev2 h
      refine lv_iinc (v := v2) (lv' := [(1, .int v2), (0, gR E 0), (2, .int a2)]) hx hb dX10_spreadMarks_46 hl (k := 1) rfl (by rw [ev2]; rfl) (by decide) rfl (fun ls hl => ?_)
      refine lv_goto (tgt := 2) hx hb dX10_spreadMarks_49 (by decide) ?_
      exact hk2 S v2 _ _ _ (lv_sub hl [1, 0] rfl) hG h
    · have h := g_neg c1 h
      refine lv_aload_n hx hb dX10_spreadMarks_15 rfl (lv_at hl 0 rfl) ?_
      refine g_getR hc hG 0 53 flX10_78 rfl rfl rfl dX10_spreadMarks_16 ?_
      refine lv_iload_n hx hb dX10_spreadMarks_19 rfl (lv_at hl 1 rfl) ?_
      refine lv_dup2_11 hx hb dX10_spreadMarks_20 rfl rfl ?_
      obtain ⟨hi3, h⟩ := g_if h
      refine g_iald hc hG 53 32 (a1.toNatClampNeg) rfl rfl hi3 rfl dX10_spreadMarks_21 ?_
      refine lv_aload_n hx hb dX10_spreadMarks_22 rfl (lv_at hl 0 rfl) ?_
      refine g_getR hc hG 0 53 flX10_78 rfl rfl rfl dX10_spreadMarks_23 ?_
      refine lv_iload_n hx hb dX10_spreadMarks_26 rfl (lv_at hl 1 rfl) ?_
      refine g_iald hc hG 53 32 (a1.toNatClampNeg) rfl rfl hi3 rfl dX10_spreadMarks_27 ?_
      refine g_sw hc hG gsX10_285 dX10_spreadMarks_28 ?_
      refine lv_iload_n hx hb dX10_spreadMarks_31 rfl (lv_at hl 2 rfl) ?_
      obtain ⟨hi4, h⟩ := g_if h
      refine g_swald hc hG hi4 dX10_spreadMarks_32 ?_
      refine lv_iand hx hb dX10_spreadMarks_33 ?_
      refine lv_iconst (v := (1 : Int32)) hx hb dX10_spreadMarks_34 (by decide) ?_
      refine lv_iload_n hx hb dX10_spreadMarks_35 rfl (lv_at hl 2 rfl) ?_
      refine lv_ishl hx hb dX10_spreadMarks_36 ?_
      refine lv_ishl hx hb dX10_spreadMarks_37 ?_
      refine lv_ior hx hb dX10_spreadMarks_38 ?_
      refine g_iast hc hG 53 32 (a1.toNatClampNeg) rfl rfl hi3 rfl dX10_spreadMarks_39 (fun S5 H locs eS5 hG => ?_)
      have h := g_let eS5 h
      obtain ⟨v6, ev6⟩ : ∃ y : Int32, y = (a2 + (1 : Int32)) := ⟨_, rfl⟩
      have h := g_let ev6 h
      refine lv_iinc (v := v6) (lv' := [(2, .int v6), (0, gR E 0), (1, .int a1)]) hx hb dX10_spreadMarks_40 hl (k := 2) rfl (by rw [ev6]; rfl) (by decide) rfl (fun ls hl => ?_)
      refine lv_goto (tgt := 10) hx hb dX10_spreadMarks_43 (by decide) ?_
      exact ih S5 a1 v6 _ _ _ (lv_sub hl [1, 2, 0] rfl) hG h
def fX10_spreadMarks_61 (k54 : GS → Int32 → Option (Unit × GS)) : Nat → GS → Int32 → Int32 → Option (Unit × GS)
  | 0, _, _, _ => none
  | n + 1, S, a1, a2 => (if (32 : Int32) ≤ a2 then glet (a1 + (1 : Int32)) fun v2 => (k54 S v2) else gbv (fX10_has S a2 a1) fun r4 => (if r4 = 0 then glet (a2 + (1 : Int32)) fun v6 => (fX10_spreadMarks_61 k54 n S a1 v6) else (if gib a2 32 = true then (if gib (a2 ^^^ ((1 : Int32) <<< (a1 &&& 31))) 32 = true then glet (gsi S 53 (a2.toNatClampNeg) ((S.1 53 a2.toNatClampNeg) ||| (S.1 53 ((a2 ^^^ ((1 : Int32) <<< (a1 &&& 31)))).toNatClampNeg))) fun S9 => glet (a2 + (1 : Int32)) fun v10 => (fX10_spreadMarks_61 k54 n S9 a1 v10) else none) else none)))
set_option maxRecDepth 100000 in
set_option maxHeartbeats 4000000 in
theorem wX10_spreadMarks_61 {p : Program} {l : Launch} {e : Env} {s : State} {m : MethodId} {args : Array Value} {below : List Frame} {meth : Method} {c : Code} {E : GE} {res : (Unit × GS)} {k54 : GS → Int32 → Option (Unit × GS)} (hc : GM E p s m args meth c RX10 cX10_spreadMarks 3 none) (hk54 : ∀ (S : GS) (a1 : Int32) (H : Heap) (locs : List Loc) (ls : Array Slot), lv_has ls 3 [(0, gR E 0), (1, .int a1)] → GX E S H locs → k54 S a1 = some res → W p l e rmX10_spreadMarks s m args below meth c H locs 0 0 (gZ E below args s none res.2) (F0 m 54 ls [])) : ∀ (n : Nat), ∀ (S : GS) (a1 : Int32) (a2 : Int32) (H : Heap) (locs : List Loc) (ls : Array Slot), lv_has ls 3 [(0, gR E 0), (1, .int a1), (2, .int a2)] → GX E S H locs → fX10_spreadMarks_61 k54 n S a1 a2 = some res → W p l e rmX10_spreadMarks s m args below meth c H locs 0 0 (gZ E below args s none res.2) (F0 m 61 ls []) := by
  obtain ⟨hx, hb, -, -, -, hown, hts, -, -⟩ := id hc
  intro n
  induction n with
  | zero => intro S a1 a2 H locs ls hl hG h; cases h
  | succ n ih =>
    intro S a1 a2 H locs ls hl hG h
    rw [fX10_spreadMarks_61] at h
    refine lv_iload_n hx hb dX10_spreadMarks_61 rfl (lv_at hl 2 rfl) ?_
    refine lv_bipush (v := (32 : Int32)) hx hb dX10_spreadMarks_62 (by decide) ?_
    refine lv_icmp_ge (tgt := 100) hx hb dX10_spreadMarks_64 (by decide) (fun c1 => ?_) (fun c1 => ?_)
    · have h := g_pos c1 h
      obtain ⟨v2, ev2⟩ : ∃ y : Int32, y = (a1 + (1 : Int32)) := ⟨_, rfl⟩
      have h := g_let ev2 h
      refine lv_iinc (v := v2) (lv' := [(1, .int v2), (0, gR E 0), (2, .int a2)]) hx hb dX10_spreadMarks_100 hl (k := 1) rfl (by rw [ev2]; rfl) (by decide) rfl (fun ls hl => ?_)
      refine lv_goto (tgt := 54) hx hb dX10_spreadMarks_103 (by decide) ?_
      exact hk54 S v2 _ _ _ (lv_sub hl [1, 0] rfl) hG h
    · have h := g_neg c1 h
      refine lv_iload_n hx hb dX10_spreadMarks_67 rfl (lv_at hl 2 rfl) ?_
      refine lv_iload_n hx hb dX10_spreadMarks_68 rfl (lv_at hl 1 rfl) ?_
      obtain ⟨r4, hm3, h⟩ := g_bv h
      refine g_callSi (As := [.int a2, .int a1]) hc hG (mX10_has l E hm3) mlX10_256 mcX10_has msX10_has rfl hl.1 rfl rfl ⟨by decide, by decide⟩ (Nat.le_of_ble_eq_true rfl) ⟨by decide, by decide⟩ dX10_spreadMarks_69 rfl (fun H locs hG => ?_)
      refine lv_if_eq (tgt := 94) hx hb dX10_spreadMarks_72 (by decide) (fun c5 => ?_) (fun c5 => ?_)
      · have h := g_pos c5 h
        obtain ⟨v6, ev6⟩ : ∃ y : Int32, y = (a2 + (1 : Int32)) := ⟨_, rfl⟩
        have h := g_let ev6 h
        refine lv_iinc (v := v6) (lv' := [(2, .int v6), (0, gR E 0), (1, .int a1)]) hx hb dX10_spreadMarks_94 hl (k := 2) rfl (by rw [ev6]; rfl) (by decide) rfl (fun ls hl => ?_)
        refine lv_goto (tgt := 61) hx hb dX10_spreadMarks_97 (by decide) ?_
        exact ih S a1 v6 _ _ _ (lv_sub hl [1, 2, 0] rfl) hG h
      · have h := g_neg c5 h
        refine lv_aload_n hx hb dX10_spreadMarks_75 rfl (lv_at hl 0 rfl) ?_
        refine g_getR hc hG 0 53 flX10_78 rfl rfl rfl dX10_spreadMarks_76 ?_
        refine lv_iload_n hx hb dX10_spreadMarks_79 rfl (lv_at hl 2 rfl) ?_
        refine lv_dup2_11 hx hb dX10_spreadMarks_80 rfl rfl ?_
        obtain ⟨hi7, h⟩ := g_if h
        refine g_iald hc hG 53 32 (a2.toNatClampNeg) rfl rfl hi7 rfl dX10_spreadMarks_81 ?_
        refine lv_aload_n hx hb dX10_spreadMarks_82 rfl (lv_at hl 0 rfl) ?_
        refine g_getR hc hG 0 53 flX10_78 rfl rfl rfl dX10_spreadMarks_83 ?_
        refine lv_iload_n hx hb dX10_spreadMarks_86 rfl (lv_at hl 2 rfl) ?_
        refine lv_iconst (v := (1 : Int32)) hx hb dX10_spreadMarks_87 (by decide) ?_
        refine lv_iload_n hx hb dX10_spreadMarks_88 rfl (lv_at hl 1 rfl) ?_
        refine lv_ishl hx hb dX10_spreadMarks_89 ?_
        refine lv_ixor hx hb dX10_spreadMarks_90 ?_
        obtain ⟨hi8, h⟩ := g_if h
        refine g_iald hc hG 53 32 (((a2 ^^^ ((1 : Int32) <<< (a1 &&& 31)))).toNatClampNeg) rfl rfl hi8 rfl dX10_spreadMarks_91 ?_
        refine lv_ior hx hb dX10_spreadMarks_92 ?_
        refine g_iast hc hG 53 32 (a2.toNatClampNeg) rfl rfl hi7 rfl dX10_spreadMarks_93 (fun S9 H locs eS9 hG => ?_)
        have h := g_let eS9 h
        obtain ⟨v10, ev10⟩ : ∃ y : Int32, y = (a2 + (1 : Int32)) := ⟨_, rfl⟩
        have h := g_let ev10 h
        refine lv_iinc (v := v10) (lv' := [(2, .int v10), (0, gR E 0), (1, .int a1)]) hx hb dX10_spreadMarks_94 hl (k := 2) rfl (by rw [ev10]; rfl) (by decide) rfl (fun ls hl => ?_)
        refine lv_goto (tgt := 61) hx hb dX10_spreadMarks_97 (by decide) ?_
        exact ih S9 a1 v10 _ _ _ (lv_sub hl [1, 2, 0] rfl) hG h
def fX10_spreadMarks_54 : Nat → GS → Int32 → Option (Unit × GS)
  | 0, _, _ => none
  | n + 1, S, a1 => (if (5 : Int32) ≤ a1 then (some ((), S)) else glet (0 : Int32) fun v2 => (fX10_spreadMarks_61 (fX10_spreadMarks_54 n) FU S a1 v2))
set_option maxRecDepth 100000 in
set_option maxHeartbeats 4000000 in
theorem wX10_spreadMarks_54 {p : Program} {l : Launch} {e : Env} {s : State} {m : MethodId} {args : Array Value} {below : List Frame} {meth : Method} {c : Code} {E : GE} {res : (Unit × GS)} (hc : GM E p s m args meth c RX10 cX10_spreadMarks 3 none) : ∀ (n : Nat), ∀ (S : GS) (a1 : Int32) (H : Heap) (locs : List Loc) (ls : Array Slot), lv_has ls 3 [(0, gR E 0), (1, .int a1)] → GX E S H locs → fX10_spreadMarks_54 n S a1 = some res → W p l e rmX10_spreadMarks s m args below meth c H locs 0 0 (gZ E below args s none res.2) (F0 m 54 ls []) := by
  obtain ⟨hx, hb, -, -, -, hown, hts, -, -⟩ := id hc
  intro n
  induction n with
  | zero => intro S a1 H locs ls hl hG h; cases h
  | succ n ih =>
    intro S a1 H locs ls hl hG h
    rw [fX10_spreadMarks_54] at h
    refine lv_iload_n hx hb dX10_spreadMarks_54 rfl (lv_at hl 1 rfl) ?_
    refine lv_iconst (v := (5 : Int32)) hx hb dX10_spreadMarks_55 (by decide) ?_
    refine lv_icmp_ge (tgt := 106) hx hb dX10_spreadMarks_56 (by decide) (fun c1 => ?_) (fun c1 => ?_)
    · have h := g_pos c1 h
      exact g_vret hc hG dX10_spreadMarks_106 h
    · have h := g_neg c1 h
      refine lv_iconst (v := (0 : Int32)) hx hb dX10_spreadMarks_59 (by decide) ?_
      refine lv_topi (fun v2 ev2 => ?_)
      have h := g_let ev2 h
      refine lv_istore_n (lv' := [(2, .int v2), (0, gR E 0), (1, .int a1)]) hx hb dX10_spreadMarks_60 rfl hl (by decide) rfl (fun ls hl => ?_)
      exact wX10_spreadMarks_61 hc ih FU S a1 v2 _ _ _ (lv_sub hl [1, 2, 0] rfl) hG h
def fX10_spreadMarks_2 : Nat → GS → Int32 → Option (Unit × GS)
  | 0, _, _ => none
  | n + 1, S, a1 => (if (32 : Int32) ≤ a1 then glet (0 : Int32) fun v2 => (fX10_spreadMarks_54 FU S v2) else glet (0 : Int32) fun v3 => (fX10_spreadMarks_10 (fX10_spreadMarks_2 n) FU S a1 v3))
set_option maxRecDepth 100000 in
set_option maxHeartbeats 4000000 in
theorem wX10_spreadMarks_2 {p : Program} {l : Launch} {e : Env} {s : State} {m : MethodId} {args : Array Value} {below : List Frame} {meth : Method} {c : Code} {E : GE} {res : (Unit × GS)} (hc : GM E p s m args meth c RX10 cX10_spreadMarks 3 none) : ∀ (n : Nat), ∀ (S : GS) (a1 : Int32) (H : Heap) (locs : List Loc) (ls : Array Slot), lv_has ls 3 [(0, gR E 0), (1, .int a1)] → GX E S H locs → fX10_spreadMarks_2 n S a1 = some res → W p l e rmX10_spreadMarks s m args below meth c H locs 0 0 (gZ E below args s none res.2) (F0 m 2 ls []) := by
  obtain ⟨hx, hb, -, -, -, hown, hts, -, -⟩ := id hc
  intro n
  induction n with
  | zero => intro S a1 H locs ls hl hG h; cases h
  | succ n ih =>
    intro S a1 H locs ls hl hG h
    rw [fX10_spreadMarks_2] at h
    refine lv_iload_n hx hb dX10_spreadMarks_2 rfl (lv_at hl 1 rfl) ?_
    refine lv_bipush (v := (32 : Int32)) hx hb dX10_spreadMarks_3 (by decide) ?_
    refine lv_icmp_ge (tgt := 52) hx hb dX10_spreadMarks_5 (by decide) (fun c1 => ?_) (fun c1 => ?_)
    · have h := g_pos c1 h
      refine lv_iconst (v := (0 : Int32)) hx hb dX10_spreadMarks_52 (by decide) ?_
      refine lv_topi (fun v2 ev2 => ?_)
      have h := g_let ev2 h
      refine lv_istore_n (lv' := [(1, .int v2), (0, gR E 0)]) hx hb dX10_spreadMarks_53 rfl hl (by decide) rfl (fun ls hl => ?_)
      exact wX10_spreadMarks_54 hc FU S v2 _ _ _ (lv_sub hl [1, 0] rfl) hG h
    · have h := g_neg c1 h
      refine lv_iconst (v := (0 : Int32)) hx hb dX10_spreadMarks_8 (by decide) ?_
      refine lv_topi (fun v3 ev3 => ?_)
      have h := g_let ev3 h
      refine lv_istore_n (lv' := [(2, .int v3), (0, gR E 0), (1, .int a1)]) hx hb dX10_spreadMarks_9 rfl hl (by decide) rfl (fun ls hl => ?_)
      exact wX10_spreadMarks_10 hc ih FU S a1 v3 _ _ _ (lv_sub hl [1, 2, 0] rfl) hG h
def fX10_spreadMarks (S : GS) : Option (Unit × GS) := glet (0 : Int32) fun v1 => (fX10_spreadMarks_2 FU S v1)
set_option maxRecDepth 100000 in
set_option maxHeartbeats 4000000 in
theorem wX10_spreadMarks_0 {p : Program} {l : Launch} {e : Env} {s : State} {m : MethodId} {args : Array Value} {below : List Frame} {meth : Method} {c : Code} {E : GE} {res : (Unit × GS)} (hc : GM E p s m args meth c RX10 cX10_spreadMarks 3 none) : ∀ (S : GS) (H : Heap) (locs : List Loc) (ls : Array Slot), lv_has ls 3 [(0, gR E 0)] → GX E S H locs → fX10_spreadMarks S = some res → W p l e rmX10_spreadMarks s m args below meth c H locs 0 0 (gZ E below args s none res.2) (F0 m 0 ls []) := by
  obtain ⟨hx, hb, -, -, -, hown, hts, -, -⟩ := id hc
  intro S H locs ls hl hG h
  unfold fX10_spreadMarks at h
  refine lv_iconst (v := (0 : Int32)) hx hb dX10_spreadMarks_0 (by decide) ?_
  refine lv_topi (fun v1 ev1 => ?_)
  have h := g_let ev1 h
  refine lv_istore_n (lv' := [(1, .int v1), (0, gR E 0)]) hx hb dX10_spreadMarks_1 rfl hl (by decide) rfl (fun ls hl => ?_)
  exact wX10_spreadMarks_2 hc FU S v1 _ _ _ (lv_sub hl [1, 0] rfl) hG h
theorem mX10_spreadMarks (l : Launch) (E : GE) {S : GS} {res : (Unit × GS)} (h : fX10_spreadMarks S = some res) : gMet l E yX10_spreadMarks cX10_spreadMarks 3 none rmX10_spreadMarks [gR E 0] S none res.2 :=
  g_met (by decide) (Nat.le_of_ble_eq_true rfl) rfl fun p e s m below meth c H ls hc hG hl => wX10_spreadMarks_0 hc S H [] ls hl hG h
abbrev rmX10_markDifferences : Room := { frames := 3, cells := 0, slots := 0, locals := 72 }
def fX10_markDifferences_59 (k10 : GS → Int32 → Int32 → Int32 → Option (Unit × GS)) : Nat → GS → Int32 → Int32 → Int32 → Int32 → Option (Unit × GS)
  | 0, _, _, _, _, _ => none
  | n + 1, S, a1, a2, a3, a4 => (if (S.1 7 0) ≤ a4 then glet (a3 + (1 : Int32)) fun v2 => (k10 S a1 a2 v2) else gbv (fX9_isThere S a4) fun r4 => (if r4 = 0 then glet (a4 + (1 : Int32)) fun v6 => (fX10_markDifferences_59 k10 n S a1 a2 a3 v6) else (if gib a4 32 = true then gbv (fX9_isHeld S a4 a2 (S.1 11 a4.toNatClampNeg)) fun r9 => (if r9 = 0 then glet (a4 + (1 : Int32)) fun v11 => (fX10_markDifferences_59 k10 n S a1 a2 a3 v11) else (if gib a3 32 = true then gbd (fX10_mark S ((S.1 11 a3.toNatClampNeg) ^^^ (S.1 11 a4.toNatClampNeg))) fun r14 S15 => glet (a4 + (1 : Int32)) fun v16 => (fX10_markDifferences_59 k10 n S15 a1 a2 a3 v16) else none)) else none)))
set_option maxRecDepth 100000 in
set_option maxHeartbeats 4000000 in
theorem wX10_markDifferences_59 {p : Program} {l : Launch} {e : Env} {s : State} {m : MethodId} {args : Array Value} {below : List Frame} {meth : Method} {c : Code} {E : GE} {res : (Unit × GS)} {k10 : GS → Int32 → Int32 → Int32 → Option (Unit × GS)} (hc : GM E p s m args meth c RX10 cX10_markDifferences 5 none) (hk10 : ∀ (S : GS) (a1 : Int32) (a2 : Int32) (a3 : Int32) (H : Heap) (locs : List Loc) (ls : Array Slot), lv_has ls 5 [(0, gR E 0), (1, .int a1), (2, .int a2), (3, .int a3)] → GX E S H locs → k10 S a1 a2 a3 = some res → W p l e rmX10_markDifferences s m args below meth c H locs 0 0 (gZ E below args s none res.2) (F0 m 10 ls [])) : ∀ (n : Nat), ∀ (S : GS) (a1 : Int32) (a2 : Int32) (a3 : Int32) (a4 : Int32) (H : Heap) (locs : List Loc) (ls : Array Slot), lv_has ls 5 [(0, gR E 0), (1, .int a1), (2, .int a2), (3, .int a3), (4, .int a4)] → GX E S H locs → fX10_markDifferences_59 k10 n S a1 a2 a3 a4 = some res → W p l e rmX10_markDifferences s m args below meth c H locs 0 0 (gZ E below args s none res.2) (F0 m 59 ls []) := by
  obtain ⟨hx, hb, -, -, -, hown, hts, -, -⟩ := id hc
  intro n
  induction n with
  | zero => intro S a1 a2 a3 a4 H locs ls hl hG h; cases h
  | succ n ih =>
    intro S a1 a2 a3 a4 H locs ls hl hG h
    rw [fX10_markDifferences_59] at h
    refine lv_iload hx hb dX10_markDifferences_59 (lv_at hl 4 rfl) ?_
    refine lv_aload_n hx hb dX10_markDifferences_61 rfl (lv_at hl 0 rfl) ?_
    refine g_getR hc hG 0 7 flX10_30 rfl rfl rfl dX10_markDifferences_62 ?_
    refine g_getI hc hG 7 flX10_230 rfl rfl dX10_markDifferences_65 ?_
    refine lv_icmp_ge (tgt := 136) hx hb dX10_markDifferences_68 (by decide) (fun c1 => ?_) (fun c1 => ?_)
    · have h := g_pos c1 h
      obtain ⟨v2, ev2⟩ : ∃ y : Int32, y = (a3 + (1 : Int32)) := ⟨_, rfl⟩
      have h := g_let ev2 h
      refine lv_iinc (v := v2) (lv' := [(3, .int v2), (0, gR E 0), (1, .int a1), (2, .int a2), (4, .int a4)]) hx hb dX10_markDifferences_136 hl (k := 3) rfl (by rw [ev2]; rfl) (by decide) rfl (fun ls hl => ?_)
      refine lv_goto (tgt := 10) hx hb dX10_markDifferences_139 (by decide) ?_
      exact hk10 S a1 a2 v2 _ _ _ (lv_sub hl [1, 2, 3, 0] rfl) hG h
    · have h := g_neg c1 h
      refine lv_aload_n hx hb dX10_markDifferences_71 rfl (lv_at hl 0 rfl) ?_
      refine g_getR hc hG 0 35 flX10_70 rfl rfl rfl dX10_markDifferences_72 ?_
      refine lv_iload hx hb dX10_markDifferences_75 (lv_at hl 4 rfl) ?_
      obtain ⟨r4, hm3, h⟩ := g_bv h
      refine g_callVi (As := [.int a4]) hc hG (mX9_isThere l E hm3) mlX10_174 mcX9_isThere miX9_isThere rfl rfl rfl rfl hl.1 rfl rfl ⟨by decide, by decide⟩ (Nat.le_of_ble_eq_true rfl) ⟨by decide, by decide⟩ dX10_markDifferences_77 rfl (fun H locs hG => ?_)
      refine lv_if_eq (tgt := 130) hx hb dX10_markDifferences_80 (by decide) (fun c5 => ?_) (fun c5 => ?_)
      · have h := g_pos c5 h
        obtain ⟨v6, ev6⟩ : ∃ y : Int32, y = (a4 + (1 : Int32)) := ⟨_, rfl⟩
        have h := g_let ev6 h
        refine lv_iinc (v := v6) (lv' := [(4, .int v6), (0, gR E 0), (1, .int a1), (2, .int a2), (3, .int a3)]) hx hb dX10_markDifferences_130 hl (k := 4) rfl (by rw [ev6]; rfl) (by decide) rfl (fun ls hl => ?_)
        refine lv_goto (tgt := 59) hx hb dX10_markDifferences_133 (by decide) ?_
        exact ih S a1 a2 a3 v6 _ _ _ (lv_sub hl [1, 2, 3, 4, 0] rfl) hG h
      · have h := g_neg c5 h
        refine lv_aload_n hx hb dX10_markDifferences_83 rfl (lv_at hl 0 rfl) ?_
        refine g_getR hc hG 0 35 flX10_70 rfl rfl rfl dX10_markDifferences_84 ?_
        refine lv_iload hx hb dX10_markDifferences_87 (lv_at hl 4 rfl) ?_
        refine lv_iload_n hx hb dX10_markDifferences_89 rfl (lv_at hl 2 rfl) ?_
        refine lv_aload_n hx hb dX10_markDifferences_90 rfl (lv_at hl 0 rfl) ?_
        refine g_getR hc hG 0 7 flX10_30 rfl rfl rfl dX10_markDifferences_91 ?_
        refine g_getR hc hG 7 11 flX10_218 rfl rfl rfl dX10_markDifferences_94 ?_
        refine lv_iload hx hb dX10_markDifferences_97 (lv_at hl 4 rfl) ?_
        obtain ⟨hi7, h⟩ := g_if h
        refine g_iald hc hG 11 32 (a4.toNatClampNeg) rfl rfl hi7 rfl dX10_markDifferences_99 ?_
        obtain ⟨r9, hm8, h⟩ := g_bv h
        refine g_callVi (As := [.int a4, .int a2, .int (S.1 11 a4.toNatClampNeg)]) hc hG (mX9_isHeld l E hm8) mlX10_240 mcX9_isHeld miX9_isHeld rfl rfl rfl rfl hl.1 rfl rfl ⟨by decide, by decide⟩ (Nat.le_of_ble_eq_true rfl) ⟨by decide, by decide⟩ dX10_markDifferences_100 rfl (fun H locs hG => ?_)
        refine lv_if_eq (tgt := 130) hx hb dX10_markDifferences_103 (by decide) (fun c10 => ?_) (fun c10 => ?_)
        · have h := g_pos c10 h
          obtain ⟨v11, ev11⟩ : ∃ y : Int32, y = (a4 + (1 : Int32)) := ⟨_, rfl⟩
          have h := g_let ev11 h
          refine lv_iinc (v := v11) (lv' := [(4, .int v11), (0, gR E 0), (1, .int a1), (2, .int a2), (3, .int a3)]) hx hb dX10_markDifferences_130 hl (k := 4) rfl (by rw [ev11]; rfl) (by decide) rfl (fun ls hl => ?_)
          refine lv_goto (tgt := 59) hx hb dX10_markDifferences_133 (by decide) ?_
          exact ih S a1 a2 a3 v11 _ _ _ (lv_sub hl [1, 2, 3, 4, 0] rfl) hG h
        · have h := g_neg c10 h
          refine lv_aload_n hx hb dX10_markDifferences_106 rfl (lv_at hl 0 rfl) ?_
          refine lv_aload_n hx hb dX10_markDifferences_107 rfl (lv_at hl 0 rfl) ?_
          refine g_getR hc hG 0 7 flX10_30 rfl rfl rfl dX10_markDifferences_108 ?_
          refine g_getR hc hG 7 11 flX10_218 rfl rfl rfl dX10_markDifferences_111 ?_
          refine lv_iload_n hx hb dX10_markDifferences_114 rfl (lv_at hl 3 rfl) ?_
          obtain ⟨hi12, h⟩ := g_if h
          refine g_iald hc hG 11 32 (a3.toNatClampNeg) rfl rfl hi12 rfl dX10_markDifferences_115 ?_
          refine lv_aload_n hx hb dX10_markDifferences_116 rfl (lv_at hl 0 rfl) ?_
          refine g_getR hc hG 0 7 flX10_30 rfl rfl rfl dX10_markDifferences_117 ?_
          refine g_getR hc hG 7 11 flX10_218 rfl rfl rfl dX10_markDifferences_120 ?_
          refine lv_iload hx hb dX10_markDifferences_123 (lv_at hl 4 rfl) ?_
          refine g_iald hc hG 11 32 (a4.toNatClampNeg) rfl rfl hi7 rfl dX10_markDifferences_125 ?_
          refine lv_ixor hx hb dX10_markDifferences_126 ?_
          obtain ⟨r14, S15, hm13, h⟩ := g_bd h
          refine g_callVv (As := [.int ((S.1 11 a3.toNatClampNeg) ^^^ (S.1 11 a4.toNatClampNeg))]) hc hG (mX10_mark l E hm13) mlX10_279 mcX10_mark miX10_mark rfl rfl rfl rfl hl.1 rfl rfl ⟨by decide, by decide⟩ (Nat.le_of_ble_eq_true rfl) ⟨by decide, by decide⟩ dX10_markDifferences_127 rfl (fun H locs hG => ?_)
          obtain ⟨v16, ev16⟩ : ∃ y : Int32, y = (a4 + (1 : Int32)) := ⟨_, rfl⟩
          have h := g_let ev16 h
          refine lv_iinc (v := v16) (lv' := [(4, .int v16), (0, gR E 0), (1, .int a1), (2, .int a2), (3, .int a3)]) hx hb dX10_markDifferences_130 hl (k := 4) rfl (by rw [ev16]; rfl) (by decide) rfl (fun ls hl => ?_)
          refine lv_goto (tgt := 59) hx hb dX10_markDifferences_133 (by decide) ?_
          exact ih S15 a1 a2 a3 v16 _ _ _ (lv_sub hl [1, 2, 3, 4, 0] rfl) hG h
def fX10_markDifferences_10 : Nat → GS → Int32 → Int32 → Int32 → Option (Unit × GS)
  | 0, _, _, _, _ => none
  | n + 1, S, a1, a2, a3 => (if (S.1 7 0) ≤ a3 then gbd (fX10_spreadMarks S) fun r3 S4 => (some ((), S4)) else gbv (fX9_isThere S a3) fun r6 => (if r6 = 0 then glet (a3 + (1 : Int32)) fun v8 => (fX10_markDifferences_10 n S a1 a2 v8) else (if gib a3 32 = true then gbv (fX9_isHeld S a3 a1 (S.1 11 a3.toNatClampNeg)) fun r11 => (if r11 = 0 then glet (a3 + (1 : Int32)) fun v14 => (fX10_markDifferences_10 n S a1 a2 v14) else glet (0 : Int32) fun v13 => (fX10_markDifferences_59 (fX10_markDifferences_10 n) FU S a1 a2 a3 v13)) else none)))
set_option maxRecDepth 100000 in
set_option maxHeartbeats 4000000 in
theorem wX10_markDifferences_10 {p : Program} {l : Launch} {e : Env} {s : State} {m : MethodId} {args : Array Value} {below : List Frame} {meth : Method} {c : Code} {E : GE} {res : (Unit × GS)} (hc : GM E p s m args meth c RX10 cX10_markDifferences 5 none) : ∀ (n : Nat), ∀ (S : GS) (a1 : Int32) (a2 : Int32) (a3 : Int32) (H : Heap) (locs : List Loc) (ls : Array Slot), lv_has ls 5 [(0, gR E 0), (1, .int a1), (2, .int a2), (3, .int a3)] → GX E S H locs → fX10_markDifferences_10 n S a1 a2 a3 = some res → W p l e rmX10_markDifferences s m args below meth c H locs 0 0 (gZ E below args s none res.2) (F0 m 10 ls []) := by
  obtain ⟨hx, hb, -, -, -, hown, hts, -, -⟩ := id hc
  intro n
  induction n with
  | zero => intro S a1 a2 a3 H locs ls hl hG h; cases h
  | succ n ih =>
    intro S a1 a2 a3 H locs ls hl hG h
    rw [fX10_markDifferences_10] at h
    refine lv_iload_n hx hb dX10_markDifferences_10 rfl (lv_at hl 3 rfl) ?_
    refine lv_aload_n hx hb dX10_markDifferences_11 rfl (lv_at hl 0 rfl) ?_
    refine g_getR hc hG 0 7 flX10_30 rfl rfl rfl dX10_markDifferences_12 ?_
    refine g_getI hc hG 7 flX10_230 rfl rfl dX10_markDifferences_15 ?_
    refine lv_icmp_ge (tgt := 142) hx hb dX10_markDifferences_18 (by decide) (fun c1 => ?_) (fun c1 => ?_)
    · have h := g_pos c1 h
      refine lv_aload_n hx hb dX10_markDifferences_142 rfl (lv_at hl 0 rfl) ?_
      obtain ⟨r3, S4, hm2, h⟩ := g_bd h
      refine g_callVv (As := []) hc hG (mX10_spreadMarks l E hm2) mlX10_282 mcX10_spreadMarks miX10_spreadMarks rfl rfl rfl rfl hl.1 rfl rfl ⟨by decide, by decide⟩ (Nat.le_of_ble_eq_true rfl) ⟨by decide, by decide⟩ dX10_markDifferences_143 rfl (fun H locs hG => ?_)
      exact g_vret hc hG dX10_markDifferences_146 h
    · have h := g_neg c1 h
      refine lv_aload_n hx hb dX10_markDifferences_21 rfl (lv_at hl 0 rfl) ?_
      refine g_getR hc hG 0 35 flX10_70 rfl rfl rfl dX10_markDifferences_22 ?_
      refine lv_iload_n hx hb dX10_markDifferences_25 rfl (lv_at hl 3 rfl) ?_
      obtain ⟨r6, hm5, h⟩ := g_bv h
      refine g_callVi (As := [.int a3]) hc hG (mX9_isThere l E hm5) mlX10_174 mcX9_isThere miX9_isThere rfl rfl rfl rfl hl.1 rfl rfl ⟨by decide, by decide⟩ (Nat.le_of_ble_eq_true rfl) ⟨by decide, by decide⟩ dX10_markDifferences_26 rfl (fun H locs hG => ?_)
      refine lv_if_eq (tgt := 136) hx hb dX10_markDifferences_29 (by decide) (fun c7 => ?_) (fun c7 => ?_)
      · have h := g_pos c7 h
        obtain ⟨v8, ev8⟩ : ∃ y : Int32, y = (a3 + (1 : Int32)) := ⟨_, rfl⟩
        have h := g_let ev8 h
        refine lv_iinc (v := v8) (lv' := [(3, .int v8), (0, gR E 0), (1, .int a1), (2, .int a2)]) hx hb dX10_markDifferences_136 hl (k := 3) rfl (by rw [ev8]; rfl) (by decide) rfl (fun ls hl => ?_)
        refine lv_goto (tgt := 10) hx hb dX10_markDifferences_139 (by decide) ?_
        exact ih S a1 a2 v8 _ _ _ (lv_sub hl [1, 2, 3, 0] rfl) hG h
      · have h := g_neg c7 h
        refine lv_aload_n hx hb dX10_markDifferences_32 rfl (lv_at hl 0 rfl) ?_
        refine g_getR hc hG 0 35 flX10_70 rfl rfl rfl dX10_markDifferences_33 ?_
        refine lv_iload_n hx hb dX10_markDifferences_36 rfl (lv_at hl 3 rfl) ?_
        refine lv_iload_n hx hb dX10_markDifferences_37 rfl (lv_at hl 1 rfl) ?_
        refine lv_aload_n hx hb dX10_markDifferences_38 rfl (lv_at hl 0 rfl) ?_
        refine g_getR hc hG 0 7 flX10_30 rfl rfl rfl dX10_markDifferences_39 ?_
        refine g_getR hc hG 7 11 flX10_218 rfl rfl rfl dX10_markDifferences_42 ?_
        refine lv_iload_n hx hb dX10_markDifferences_45 rfl (lv_at hl 3 rfl) ?_
        obtain ⟨hi9, h⟩ := g_if h
        refine g_iald hc hG 11 32 (a3.toNatClampNeg) rfl rfl hi9 rfl dX10_markDifferences_46 ?_
        obtain ⟨r11, hm10, h⟩ := g_bv h
        refine g_callVi (As := [.int a3, .int a1, .int (S.1 11 a3.toNatClampNeg)]) hc hG (mX9_isHeld l E hm10) mlX10_240 mcX9_isHeld miX9_isHeld rfl rfl rfl rfl hl.1 rfl rfl ⟨by decide, by decide⟩ (Nat.le_of_ble_eq_true rfl) ⟨by decide, by decide⟩ dX10_markDifferences_47 rfl (fun H locs hG => ?_)
        refine lv_if_ne (tgt := 56) hx hb dX10_markDifferences_50 (by decide) (fun c12 => ?_) (fun c12 => ?_)
        · have h := g_neg c12 h
          refine lv_iconst (v := (0 : Int32)) hx hb dX10_markDifferences_56 (by decide) ?_
          refine lv_topi (fun v13 ev13 => ?_)
          have h := g_let ev13 h
          refine lv_istore (lv' := [(4, .int v13), (0, gR E 0), (1, .int a1), (2, .int a2), (3, .int a3)]) hx hb dX10_markDifferences_57 hl (by decide) rfl (fun ls hl => ?_)
          exact wX10_markDifferences_59 hc ih FU S a1 a2 a3 v13 _ _ _ (lv_sub hl [1, 2, 3, 4, 0] rfl) hG h
        · have h := g_pos c12 h
          refine lv_goto (tgt := 136) hx hb dX10_markDifferences_53 (by decide) ?_
          obtain ⟨v14, ev14⟩ : ∃ y : Int32, y = (a3 + (1 : Int32)) := ⟨_, rfl⟩
          have h := g_let ev14 h
          refine lv_iinc (v := v14) (lv' := [(3, .int v14), (0, gR E 0), (1, .int a1), (2, .int a2)]) hx hb dX10_markDifferences_136 hl (k := 3) rfl (by rw [ev14]; rfl) (by decide) rfl (fun ls hl => ?_)
          refine lv_goto (tgt := 10) hx hb dX10_markDifferences_139 (by decide) ?_
          exact ih S a1 a2 v14 _ _ _ (lv_sub hl [1, 2, 3, 0] rfl) hG h
def fX10_markDifferences (S : GS) (a1 : Int32) (a2 : Int32) : Option (Unit × GS) := gbd (fJ7_fill_53178 S 53 (0 : Int32)) fun r2 S3 => glet (0 : Int32) fun v4 => (fX10_markDifferences_10 FU S3 a1 a2 v4)
set_option maxRecDepth 100000 in
set_option maxHeartbeats 4000000 in
theorem wX10_markDifferences_0 {p : Program} {l : Launch} {e : Env} {s : State} {m : MethodId} {args : Array Value} {below : List Frame} {meth : Method} {c : Code} {E : GE} {res : (Unit × GS)} (hc : GM E p s m args meth c RX10 cX10_markDifferences 5 none) : ∀ (S : GS) (a1 : Int32) (a2 : Int32) (H : Heap) (locs : List Loc) (ls : Array Slot), lv_has ls 5 [(0, gR E 0), (1, .int a1), (2, .int a2)] → GX E S H locs → fX10_markDifferences S a1 a2 = some res → W p l e rmX10_markDifferences s m args below meth c H locs 0 0 (gZ E below args s none res.2) (F0 m 0 ls []) := by
  obtain ⟨hx, hb, -, -, -, hown, hts, -, -⟩ := id hc
  intro S a1 a2 H locs ls hl hG h
  unfold fX10_markDifferences at h
  refine lv_aload_n hx hb dX10_markDifferences_0 rfl (lv_at hl 0 rfl) ?_
  refine g_getR hc hG 0 53 flX10_78 rfl rfl rfl dX10_markDifferences_1 ?_
  refine lv_iconst (v := (0 : Int32)) hx hb dX10_markDifferences_4 (by decide) ?_
  obtain ⟨r2, S3, hm1, h⟩ := g_bd h
  refine g_callSv (As := [gR E 53, .int (0 : Int32)]) hc hG (mJ7_fill_53178 l E hm1) mlX10_273 mcJ7_fill_53178 msJ7_fill_53178 rfl hl.1 rfl rfl ⟨by decide, by decide⟩ (Nat.le_of_ble_eq_true rfl) ⟨by decide, by decide⟩ dX10_markDifferences_5 rfl (fun H locs hG => ?_)
  refine lv_iconst (v := (0 : Int32)) hx hb dX10_markDifferences_8 (by decide) ?_
  refine lv_topi (fun v4 ev4 => ?_)
  have h := g_let ev4 h
  refine lv_istore_n (lv' := [(3, .int v4), (0, gR E 0), (1, .int a1), (2, .int a2)]) hx hb dX10_markDifferences_9 rfl hl (by decide) rfl (fun ls hl => ?_)
  exact wX10_markDifferences_10 hc FU S3 a1 a2 v4 _ _ _ (lv_sub hl [1, 2, 3, 0] rfl) hG h
theorem mX10_markDifferences (l : Launch) (E : GE) {S : GS} {a1 : Int32} {a2 : Int32} {res : (Unit × GS)} (h : fX10_markDifferences S a1 a2 = some res) : gMet l E yX10_markDifferences cX10_markDifferences 5 none rmX10_markDifferences [gR E 0, .int a1, .int a2] S none res.2 :=
  g_met (by decide) (Nat.le_of_ble_eq_true rfl) rfl fun p e s m below meth c H ls hc hG hl => wX10_markDifferences_0 hc S a1 a2 H [] ls hl hG h
abbrev rmX10_isMarked : Room := { frames := 1, cells := 0, slots := 0, locals := 21 }
def fX10_isMarked (S : GS) (a1 : Int32) : Option Int32 := (if gib (a1 >>> ((5 : Int32) &&& 31)) 32 = true then gbv (fX10_has S (S.1 53 ((a1 >>> ((5 : Int32) &&& 31))).toNatClampNeg) (a1 &&& (31 : Int32))) fun r3 => (if (r3 = 0 ∨ r3 = 1) then (some r3) else none) else none)
set_option maxRecDepth 100000 in
set_option maxHeartbeats 4000000 in
theorem wX10_isMarked_0 {p : Program} {l : Launch} {e : Env} {s : State} {m : MethodId} {args : Array Value} {below : List Frame} {meth : Method} {c : Code} {E : GE} {res : Int32} (hc : GM E p s m args meth c RX10 cX10_isMarked 2 (some .boolean)) : ∀ (S : GS) (a1 : Int32) (H : Heap) (locs : List Loc) (ls : Array Slot), lv_has ls 2 [(0, gR E 0), (1, .int a1)] → GX E S H locs → fX10_isMarked S a1 = some res → W p l e rmX10_isMarked s m args below meth c H locs 0 0 (gZ E below args s (some (.int res)) S) (F0 m 0 ls []) := by
  obtain ⟨hx, hb, -, -, -, hown, hts, -, -⟩ := id hc
  intro S a1 H locs ls hl hG h
  unfold fX10_isMarked at h
  refine lv_aload_n hx hb dX10_isMarked_0 rfl (lv_at hl 0 rfl) ?_
  refine g_getR hc hG 0 53 flX10_78 rfl rfl rfl dX10_isMarked_1 ?_
  refine lv_iload_n hx hb dX10_isMarked_4 rfl (lv_at hl 1 rfl) ?_
  refine lv_iconst (v := (5 : Int32)) hx hb dX10_isMarked_5 (by decide) ?_
  refine lv_ishr hx hb dX10_isMarked_6 ?_
  obtain ⟨hi1, h⟩ := g_if h
  refine g_iald hc hG 53 32 (((a1 >>> ((5 : Int32) &&& 31))).toNatClampNeg) rfl rfl hi1 rfl dX10_isMarked_7 ?_
  refine lv_iload_n hx hb dX10_isMarked_8 rfl (lv_at hl 1 rfl) ?_
  refine lv_bipush (v := (31 : Int32)) hx hb dX10_isMarked_9 (by decide) ?_
  refine lv_iand hx hb dX10_isMarked_11 ?_
  obtain ⟨r3, hm2, h⟩ := g_bv h
  refine g_callSi (As := [.int (S.1 53 ((a1 >>> ((5 : Int32) &&& 31))).toNatClampNeg), .int (a1 &&& (31 : Int32))]) hc hG (mX10_has l E hm2) mlX10_256 mcX10_has msX10_has rfl hl.1 rfl rfl ⟨by decide, by decide⟩ (Nat.le_of_ble_eq_true rfl) ⟨by decide, by decide⟩ dX10_isMarked_12 rfl (fun H locs hG => ?_)
  obtain ⟨hz4, h⟩ := g_if h
  exact g_zretp hc hG hz4 dX10_isMarked_15 h
theorem mX10_isMarked (l : Launch) (E : GE) {S : GS} {a1 : Int32} {res : Int32} (h : fX10_isMarked S a1 = some res) : gMet l E yX10_isMarked cX10_isMarked 2 (some .boolean) rmX10_isMarked [gR E 0, .int a1] S (some (.int res)) S :=
  g_met (by decide) (Nat.le_of_ble_eq_true rfl) rfl fun p e s m below meth c H ls hc hG hl => wX10_isMarked_0 hc S a1 H [] ls hl hG h
abbrev rmX10_fewestThatTell : Room := { frames := 2, cells := 0, slots := 0, locals := 42 }
def fX10_fewestThatTell_19 : Nat → GS → Int32 → Int32 → Int32 → Option Int32
  | 0, _, _, _, _ => none
  | n + 1, S, a1, a2, a3 => (if (1023 : Int32) ≤ a3 then (some a1) else gbv (fJ6_bitCount_0f7a4 S a3) fun r3 => (if a2 ≤ r3 then glet (a3 + (1 : Int32)) fun v5 => (fX10_fewestThatTell_19 n S a1 a2 v5) else gbv (fX10_isMarked S ((1023 : Int32) &&& (a3 ^^^ (-1 : Int32)))) fun r7 => (if r7 = 0 then gbv (fJ6_bitCount_0f7a4 S a3) fun r11 => glet (a3 + (1 : Int32)) fun v12 => (fX10_fewestThatTell_19 n S a3 r11 v12) else glet (a3 + (1 : Int32)) fun v9 => (fX10_fewestThatTell_19 n S a1 a2 v9))))
set_option maxRecDepth 100000 in
set_option maxHeartbeats 4000000 in
theorem wX10_fewestThatTell_19 {p : Program} {l : Launch} {e : Env} {s : State} {m : MethodId} {args : Array Value} {below : List Frame} {meth : Method} {c : Code} {E : GE} {res : Int32} (hc : GM E p s m args meth c RX10 cX10_fewestThatTell 4 (some .int)) : ∀ (n : Nat), ∀ (S : GS) (a1 : Int32) (a2 : Int32) (a3 : Int32) (H : Heap) (locs : List Loc) (ls : Array Slot), lv_has ls 4 [(0, gR E 0), (1, .int a1), (2, .int a2), (3, .int a3)] → GX E S H locs → fX10_fewestThatTell_19 n S a1 a2 a3 = some res → W p l e rmX10_fewestThatTell s m args below meth c H locs 0 0 (gZ E below args s (some (.int res)) S) (F0 m 19 ls []) := by
  obtain ⟨hx, hb, -, -, -, hown, hts, -, -⟩ := id hc
  intro n
  induction n with
  | zero => intro S a1 a2 a3 H locs ls hl hG h; cases h
  | succ n ih =>
    intro S a1 a2 a3 H locs ls hl hG h
    rw [fX10_fewestThatTell_19] at h
    refine lv_iload_n hx hb dX10_fewestThatTell_19 rfl (lv_at hl 3 rfl) ?_
    refine lv_sipush (v := (1023 : Int32)) hx hb dX10_fewestThatTell_20 (by decide) ?_
    refine lv_icmp_ge (tgt := 61) hx hb dX10_fewestThatTell_23 (by decide) (fun c1 => ?_) (fun c1 => ?_)
    · have h := g_pos c1 h
      refine lv_iload_n hx hb dX10_fewestThatTell_61 rfl (lv_at hl 1 rfl) ?_
      exact g_iretp hc hG dX10_fewestThatTell_62 h
    · have h := g_neg c1 h
      refine lv_iload_n hx hb dX10_fewestThatTell_26 rfl (lv_at hl 3 rfl) ?_
      obtain ⟨r3, hm2, h⟩ := g_bv h
      refine g_callSi (As := [.int a3]) hc hG (mJ6_bitCount_0f7a4 l E hm2) mlX10_262 mcJ6_bitCount_0f7a4 msJ6_bitCount_0f7a4 rfl hl.1 rfl rfl ⟨by decide, by decide⟩ (Nat.le_of_ble_eq_true rfl) ⟨by decide, by decide⟩ dX10_fewestThatTell_27 rfl (fun H locs hG => ?_)
      refine lv_iload_n hx hb dX10_fewestThatTell_30 rfl (lv_at hl 2 rfl) ?_
      refine lv_icmp_ge (tgt := 55) hx hb dX10_fewestThatTell_31 (by decide) (fun c4 => ?_) (fun c4 => ?_)
      · have h := g_pos c4 h
        obtain ⟨v5, ev5⟩ : ∃ y : Int32, y = (a3 + (1 : Int32)) := ⟨_, rfl⟩
        have h := g_let ev5 h
        refine lv_iinc (v := v5) (lv' := [(3, .int v5), (0, gR E 0), (1, .int a1), (2, .int a2)]) hx hb dX10_fewestThatTell_55 hl (k := 3) rfl (by rw [ev5]; rfl) (by decide) rfl (fun ls hl => ?_)
        refine lv_goto (tgt := 19) hx hb dX10_fewestThatTell_58 (by decide) ?_
        exact ih S a1 a2 v5 _ _ _ (lv_sub hl [1, 2, 3, 0] rfl) hG h
      · have h := g_neg c4 h
        refine lv_aload_n hx hb dX10_fewestThatTell_34 rfl (lv_at hl 0 rfl) ?_
        refine lv_sipush (v := (1023 : Int32)) hx hb dX10_fewestThatTell_35 (by decide) ?_
        refine lv_iload_n hx hb dX10_fewestThatTell_38 rfl (lv_at hl 3 rfl) ?_
        refine lv_iconst (v := (-1 : Int32)) hx hb dX10_fewestThatTell_39 (by decide) ?_
        refine lv_ixor hx hb dX10_fewestThatTell_40 ?_
        refine lv_iand hx hb dX10_fewestThatTell_41 ?_
        obtain ⟨r7, hm6, h⟩ := g_bv h
        refine g_callVi (As := [.int ((1023 : Int32) &&& (a3 ^^^ (-1 : Int32)))]) hc hG (mX10_isMarked l E hm6) mlX10_288 mcX10_isMarked miX10_isMarked rfl rfl rfl rfl hl.1 rfl rfl ⟨by decide, by decide⟩ (Nat.le_of_ble_eq_true rfl) ⟨by decide, by decide⟩ dX10_fewestThatTell_42 rfl (fun H locs hG => ?_)
        refine lv_if_ne (tgt := 55) hx hb dX10_fewestThatTell_45 (by decide) (fun c8 => ?_) (fun c8 => ?_)
        · have h := g_neg c8 h
          obtain ⟨v9, ev9⟩ : ∃ y : Int32, y = (a3 + (1 : Int32)) := ⟨_, rfl⟩
          have h := g_let ev9 h
          refine lv_iinc (v := v9) (lv' := [(3, .int v9), (0, gR E 0), (1, .int a1), (2, .int a2)]) hx hb dX10_fewestThatTell_55 hl (k := 3) rfl (by rw [ev9]; rfl) (by decide) rfl (fun ls hl => ?_)
          refine lv_goto (tgt := 19) hx hb dX10_fewestThatTell_58 (by decide) ?_
          exact ih S a1 a2 v9 _ _ _ (lv_sub hl [1, 2, 3, 0] rfl) hG h
        · have h := g_pos c8 h
          refine lv_iload_n hx hb dX10_fewestThatTell_48 rfl (lv_at hl 3 rfl) ?_
          refine lv_istore_n (lv' := [(1, .int a3), (0, gR E 0), (2, .int a2), (3, .int a3)]) hx hb dX10_fewestThatTell_49 rfl hl (by decide) rfl (fun ls hl => ?_)
          refine lv_iload_n hx hb dX10_fewestThatTell_50 rfl (lv_at hl 3 rfl) ?_
          obtain ⟨r11, hm10, h⟩ := g_bv h
          refine g_callSi (As := [.int a3]) hc hG (mJ6_bitCount_0f7a4 l E hm10) mlX10_262 mcJ6_bitCount_0f7a4 msJ6_bitCount_0f7a4 rfl hl.1 rfl rfl ⟨by decide, by decide⟩ (Nat.le_of_ble_eq_true rfl) ⟨by decide, by decide⟩ dX10_fewestThatTell_51 rfl (fun H locs hG => ?_)
          refine lv_istore_n (lv' := [(2, .int r11), (1, .int a3), (0, gR E 0), (3, .int a3)]) hx hb dX10_fewestThatTell_54 rfl hl (by decide) rfl (fun ls hl => ?_)
          obtain ⟨v12, ev12⟩ : ∃ y : Int32, y = (a3 + (1 : Int32)) := ⟨_, rfl⟩
          have h := g_let ev12 h
          refine lv_iinc (v := v12) (lv' := [(3, .int v12), (2, .int r11), (1, .int a3), (0, gR E 0)]) hx hb dX10_fewestThatTell_55 hl (k := 3) rfl (by rw [ev12]; rfl) (by decide) rfl (fun ls hl => ?_)
          refine lv_goto (tgt := 19) hx hb dX10_fewestThatTell_58 (by decide) ?_
          exact ih S a3 r11 v12 _ _ _ (lv_sub hl [3, 2, 1, 0] rfl) hG h
def fX10_fewestThatTell (S : GS) : Option Int32 := gbv (fX10_isMarked S (0 : Int32)) fun r2 => (if r2 = 0 then glet (1023 : Int32) fun v4 => glet (10 : Int32) fun v5 => glet (0 : Int32) fun v6 => (fX10_fewestThatTell_19 FU S v4 v5 v6) else (some (-1 : Int32)))
set_option maxRecDepth 100000 in
set_option maxHeartbeats 4000000 in
theorem wX10_fewestThatTell_0 {p : Program} {l : Launch} {e : Env} {s : State} {m : MethodId} {args : Array Value} {below : List Frame} {meth : Method} {c : Code} {E : GE} {res : Int32} (hc : GM E p s m args meth c RX10 cX10_fewestThatTell 4 (some .int)) : ∀ (S : GS) (H : Heap) (locs : List Loc) (ls : Array Slot), lv_has ls 4 [(0, gR E 0)] → GX E S H locs → fX10_fewestThatTell S = some res → W p l e rmX10_fewestThatTell s m args below meth c H locs 0 0 (gZ E below args s (some (.int res)) S) (F0 m 0 ls []) := by
  obtain ⟨hx, hb, -, -, -, hown, hts, -, -⟩ := id hc
  intro S H locs ls hl hG h
  unfold fX10_fewestThatTell at h
  refine lv_aload_n hx hb dX10_fewestThatTell_0 rfl (lv_at hl 0 rfl) ?_
  refine lv_iconst (v := (0 : Int32)) hx hb dX10_fewestThatTell_1 (by decide) ?_
  obtain ⟨r2, hm1, h⟩ := g_bv h
  refine g_callVi (As := [.int (0 : Int32)]) hc hG (mX10_isMarked l E hm1) mlX10_288 mcX10_isMarked miX10_isMarked rfl rfl rfl rfl hl.1 rfl rfl ⟨by decide, by decide⟩ (Nat.le_of_ble_eq_true rfl) ⟨by decide, by decide⟩ dX10_fewestThatTell_2 rfl (fun H locs hG => ?_)
  refine lv_if_eq (tgt := 10) hx hb dX10_fewestThatTell_5 (by decide) (fun c3 => ?_) (fun c3 => ?_)
  · have h := g_pos c3 h
    refine lv_sipush (v := (1023 : Int32)) hx hb dX10_fewestThatTell_10 (by decide) ?_
    refine lv_topi (fun v4 ev4 => ?_)
    have h := g_let ev4 h
    refine lv_istore_n (lv' := [(1, .int v4), (0, gR E 0)]) hx hb dX10_fewestThatTell_13 rfl hl (by decide) rfl (fun ls hl => ?_)
    refine lv_bipush (v := (10 : Int32)) hx hb dX10_fewestThatTell_14 (by decide) ?_
    refine lv_topi (fun v5 ev5 => ?_)
    have h := g_let ev5 h
    refine lv_istore_n (lv' := [(2, .int v5), (1, .int v4), (0, gR E 0)]) hx hb dX10_fewestThatTell_16 rfl hl (by decide) rfl (fun ls hl => ?_)
    refine lv_iconst (v := (0 : Int32)) hx hb dX10_fewestThatTell_17 (by decide) ?_
    refine lv_topi (fun v6 ev6 => ?_)
    have h := g_let ev6 h
    refine lv_istore_n (lv' := [(3, .int v6), (2, .int v5), (1, .int v4), (0, gR E 0)]) hx hb dX10_fewestThatTell_18 rfl hl (by decide) rfl (fun ls hl => ?_)
    exact wX10_fewestThatTell_19 hc FU S v4 v5 v6 _ _ _ (lv_sub hl [3, 2, 1, 0] rfl) hG h
  · have h := g_neg c3 h
    refine lv_iconst (v := (-1 : Int32)) hx hb dX10_fewestThatTell_8 (by decide) ?_
    exact g_iretp hc hG dX10_fewestThatTell_9 h
theorem mX10_fewestThatTell (l : Launch) (E : GE) {S : GS} {res : Int32} (h : fX10_fewestThatTell S = some res) : gMet l E yX10_fewestThatTell cX10_fewestThatTell 4 (some .int) rmX10_fewestThatTell [gR E 0] S (some (.int res)) S :=
  g_met (by decide) (Nat.le_of_ble_eq_true rfl) rfl fun p e s m below meth c H ls hc hG hl => wX10_fewestThatTell_0 hc S H [] ls hl hG h
abbrev rmX10_apart : Room := { frames := 7, cells := 0, slots := 0, locals := 179 }
def fX10_apart (S : GS) (a1 : Int32) (a2 : Int32) (a3 : Int32) (a4 : Int32) : Option (Int32 × GS) := gbv (fX10_isPoint S a1) fun r2 => (if r2 = 0 then (some ((-1 : Int32), S)) else gbv (fX10_isPoint S a2) fun r5 => (if r5 = 0 then (some ((-1 : Int32), S)) else gbv (fX10_isDay S a3) fun r8 => (if r8 = 0 then (some ((-1 : Int32), S)) else gbv (fX10_isDay S a4) fun r11 => (if r11 = 0 then (some ((-1 : Int32), S)) else gbd (fX9_see S (S.2.2 0) a4 (-1 : Int32)) fun r14 S15 => gbd (fX9_goToDay S15 a3) fun r17 S18 => (if gib a1 12 = true then (if gib a2 12 = true then gbd (fX10_markDifferences S18 (S18.1 37 a1.toNatClampNeg) (S18.1 37 a2.toNatClampNeg)) fun r22 S23 => gbv (fX10_fewestThatTell S23) fun r25 => (some (r25, S23)) else none) else none)))))
set_option maxRecDepth 100000 in
set_option maxHeartbeats 4000000 in
theorem wX10_apart_0 {p : Program} {l : Launch} {e : Env} {s : State} {m : MethodId} {args : Array Value} {below : List Frame} {meth : Method} {c : Code} {E : GE} {res : (Int32 × GS)} (hc : GM E p s m args meth c RX10 cX10_apart 5 (some .int)) : ∀ (S : GS) (a1 : Int32) (a2 : Int32) (a3 : Int32) (a4 : Int32) (H : Heap) (locs : List Loc) (ls : Array Slot), lv_has ls 5 [(0, gR E 0), (1, .int a1), (2, .int a2), (3, .int a3), (4, .int a4)] → GX E S H locs → fX10_apart S a1 a2 a3 a4 = some res → W p l e rmX10_apart s m args below meth c H locs 0 0 (gZ E below args s (some (.int res.1)) res.2) (F0 m 0 ls []) := by
  obtain ⟨hx, hb, -, -, -, hown, hts, -, -⟩ := id hc
  intro S a1 a2 a3 a4 H locs ls hl hG h
  unfold fX10_apart at h
  refine lv_aload_n hx hb dX10_apart_0 rfl (lv_at hl 0 rfl) ?_
  refine lv_iload_n hx hb dX10_apart_1 rfl (lv_at hl 1 rfl) ?_
  obtain ⟨r2, hm1, h⟩ := g_bv h
  refine g_callVi (As := [.int a1]) hc hG (mX10_isPoint l E hm1) mlX10_116 mcX10_isPoint miX10_isPoint rfl rfl rfl rfl hl.1 rfl rfl ⟨by decide, by decide⟩ (Nat.le_of_ble_eq_true rfl) ⟨by decide, by decide⟩ dX10_apart_2 rfl (fun H locs hG => ?_)
  refine lv_if_eq (tgt := 31) hx hb dX10_apart_5 (by decide) (fun c3 => ?_) (fun c3 => ?_)
  · have h := g_pos c3 h
    refine lv_iconst (v := (-1 : Int32)) hx hb dX10_apart_31 (by decide) ?_
    exact g_iret hc hG dX10_apart_32 h
  · have h := g_neg c3 h
    refine lv_aload_n hx hb dX10_apart_8 rfl (lv_at hl 0 rfl) ?_
    refine lv_iload_n hx hb dX10_apart_9 rfl (lv_at hl 2 rfl) ?_
    obtain ⟨r5, hm4, h⟩ := g_bv h
    refine g_callVi (As := [.int a2]) hc hG (mX10_isPoint l E hm4) mlX10_116 mcX10_isPoint miX10_isPoint rfl rfl rfl rfl hl.1 rfl rfl ⟨by decide, by decide⟩ (Nat.le_of_ble_eq_true rfl) ⟨by decide, by decide⟩ dX10_apart_10 rfl (fun H locs hG => ?_)
    refine lv_if_eq (tgt := 31) hx hb dX10_apart_13 (by decide) (fun c6 => ?_) (fun c6 => ?_)
    · have h := g_pos c6 h
      refine lv_iconst (v := (-1 : Int32)) hx hb dX10_apart_31 (by decide) ?_
      exact g_iret hc hG dX10_apart_32 h
    · have h := g_neg c6 h
      refine lv_iload_n hx hb dX10_apart_16 rfl (lv_at hl 3 rfl) ?_
      obtain ⟨r8, hm7, h⟩ := g_bv h
      refine g_callSi (As := [.int a3]) hc hG (mX10_isDay l E hm7) mlX10_102 mcX10_isDay msX10_isDay rfl hl.1 rfl rfl ⟨by decide, by decide⟩ (Nat.le_of_ble_eq_true rfl) ⟨by decide, by decide⟩ dX10_apart_17 rfl (fun H locs hG => ?_)
      refine lv_if_eq (tgt := 31) hx hb dX10_apart_20 (by decide) (fun c9 => ?_) (fun c9 => ?_)
      · have h := g_pos c9 h
        refine lv_iconst (v := (-1 : Int32)) hx hb dX10_apart_31 (by decide) ?_
        exact g_iret hc hG dX10_apart_32 h
      · have h := g_neg c9 h
        refine lv_iload hx hb dX10_apart_23 (lv_at hl 4 rfl) ?_
        obtain ⟨r11, hm10, h⟩ := g_bv h
        refine g_callSi (As := [.int a4]) hc hG (mX10_isDay l E hm10) mlX10_102 mcX10_isDay msX10_isDay rfl hl.1 rfl rfl ⟨by decide, by decide⟩ (Nat.le_of_ble_eq_true rfl) ⟨by decide, by decide⟩ dX10_apart_25 rfl (fun H locs hG => ?_)
        refine lv_if_ne (tgt := 33) hx hb dX10_apart_28 (by decide) (fun c12 => ?_) (fun c12 => ?_)
        · have h := g_neg c12 h
          refine lv_aload_n hx hb dX10_apart_33 rfl (lv_at hl 0 rfl) ?_
          refine g_getR hc hG 0 35 flX10_70 rfl rfl rfl dX10_apart_34 ?_
          refine lv_aload_n hx hb dX10_apart_37 rfl (lv_at hl 0 rfl) ?_
          refine g_getR hc hG 0 (S.2.2 0) flX10_44 rfl rfl rfl dX10_apart_38 ?_
          refine lv_iload hx hb dX10_apart_41 (lv_at hl 4 rfl) ?_
          refine lv_iconst (v := (-1 : Int32)) hx hb dX10_apart_43 (by decide) ?_
          obtain ⟨r14, S15, hm13, h⟩ := g_bd h
          refine g_callVv (As := [gR E (S.2.2 0), .int a4, .int (-1 : Int32)]) hc hG (mX9_see l E hm13) mlX10_153 mcX9_see miX9_see rfl rfl rfl rfl hl.1 rfl rfl ⟨by decide, by decide⟩ (Nat.le_of_ble_eq_true rfl) ⟨by decide, by decide⟩ dX10_apart_44 rfl (fun H locs hG => ?_)
          refine lv_aload_n hx hb dX10_apart_47 rfl (lv_at hl 0 rfl) ?_
          refine g_getR hc hG 0 35 flX10_70 rfl rfl rfl dX10_apart_48 ?_
          refine lv_iload_n hx hb dX10_apart_51 rfl (lv_at hl 3 rfl) ?_
          obtain ⟨r17, S18, hm16, h⟩ := g_bd h
          refine g_callVv (As := [.int a3]) hc hG (mX9_goToDay l E hm16) mlX10_157 mcX9_goToDay miX9_goToDay rfl rfl rfl rfl hl.1 rfl rfl ⟨by decide, by decide⟩ (Nat.le_of_ble_eq_true rfl) ⟨by decide, by decide⟩ dX10_apart_52 rfl (fun H locs hG => ?_)
          refine lv_aload_n hx hb dX10_apart_55 rfl (lv_at hl 0 rfl) ?_
          refine lv_aload_n hx hb dX10_apart_56 rfl (lv_at hl 0 rfl) ?_
          refine g_getR hc hG 0 35 flX10_70 rfl rfl rfl dX10_apart_57 ?_
          refine g_getR hc hG 35 36 flX10_160 rfl rfl rfl dX10_apart_60 ?_
          refine g_getR hc hG 36 37 flX10_164 rfl rfl rfl dX10_apart_63 ?_
          refine lv_iload_n hx hb dX10_apart_66 rfl (lv_at hl 1 rfl) ?_
          obtain ⟨hi19, h⟩ := g_if h
          refine g_iald hc hG 37 12 (a1.toNatClampNeg) rfl rfl hi19 rfl dX10_apart_67 ?_
          refine lv_aload_n hx hb dX10_apart_68 rfl (lv_at hl 0 rfl) ?_
          refine g_getR hc hG 0 35 flX10_70 rfl rfl rfl dX10_apart_69 ?_
          refine g_getR hc hG 35 36 flX10_160 rfl rfl rfl dX10_apart_72 ?_
          refine g_getR hc hG 36 37 flX10_164 rfl rfl rfl dX10_apart_75 ?_
          refine lv_iload_n hx hb dX10_apart_78 rfl (lv_at hl 2 rfl) ?_
          obtain ⟨hi20, h⟩ := g_if h
          refine g_iald hc hG 37 12 (a2.toNatClampNeg) rfl rfl hi20 rfl dX10_apart_79 ?_
          obtain ⟨r22, S23, hm21, h⟩ := g_bd h
          refine g_callVv (As := [.int (S18.1 37 a1.toNatClampNeg), .int (S18.1 37 a2.toNatClampNeg)]) hc hG (mX10_markDifferences l E hm21) mlX10_197 mcX10_markDifferences miX10_markDifferences rfl rfl rfl rfl hl.1 rfl rfl ⟨by decide, by decide⟩ (Nat.le_of_ble_eq_true rfl) ⟨by decide, by decide⟩ dX10_apart_80 rfl (fun H locs hG => ?_)
          refine lv_aload_n hx hb dX10_apart_83 rfl (lv_at hl 0 rfl) ?_
          obtain ⟨r25, hm24, h⟩ := g_bv h
          refine g_callVi (As := []) hc hG (mX10_fewestThatTell l E hm24) mlX10_200 mcX10_fewestThatTell miX10_fewestThatTell rfl rfl rfl rfl hl.1 rfl rfl ⟨by decide, by decide⟩ (Nat.le_of_ble_eq_true rfl) ⟨by decide, by decide⟩ dX10_apart_84 rfl (fun H locs hG => ?_)
          exact g_iret hc hG dX10_apart_87 h
        · have h := g_pos c12 h
          refine lv_iconst (v := (-1 : Int32)) hx hb dX10_apart_31 (by decide) ?_
          exact g_iret hc hG dX10_apart_32 h
theorem mX10_apart (l : Launch) (E : GE) {S : GS} {a1 : Int32} {a2 : Int32} {a3 : Int32} {a4 : Int32} {res : (Int32 × GS)} (h : fX10_apart S a1 a2 a3 a4 = some res) : gMet l E yX10_apart cX10_apart 5 (some .int) rmX10_apart [gR E 0, .int a1, .int a2, .int a3, .int a4] S (some (.int res.1)) res.2 :=
  g_met (by decide) (Nat.le_of_ble_eq_true rfl) rfl fun p e s m below meth c H ls hc hG hl => wX10_apart_0 hc S a1 a2 a3 a4 H [] ls hl hG h
abbrev rmX10_hangs : Room := { frames := 7, cells := 0, slots := 0, locals := 179 }
def fX10_hangs_136 : Nat → GS → Int32 → Int32 → Int32 → Int32 → Option (Int32 × GS)
  | 0, _, _, _, _, _ => none
  | n + 1, S, a2, a3, a6, a7 => (if (S.1 5 0) ≤ a7 then (some (a6, S)) else (if gib a7 12 = true then (if (S.1 37 a7.toNatClampNeg) = a7 then gbd (fX9_standOf S a7 a2 a3) fun r6 S7 => (if r6 = (S7.1 52 a7.toNatClampNeg) then glet (a7 + (1 : Int32)) fun v9 => (fX10_hangs_136 n S7 a2 a3 a6 v9) else glet (a6 ||| ((1 : Int32) <<< (a7 &&& 31))) fun v10 => glet (a7 + (1 : Int32)) fun v11 => (fX10_hangs_136 n S7 a2 a3 v10 v11)) else glet (a7 + (1 : Int32)) fun v4 => (fX10_hangs_136 n S a2 a3 a6 v4)) else none))
set_option maxRecDepth 100000 in
set_option maxHeartbeats 4000000 in
theorem wX10_hangs_136 {p : Program} {l : Launch} {e : Env} {s : State} {m : MethodId} {args : Array Value} {below : List Frame} {meth : Method} {c : Code} {E : GE} {res : (Int32 × GS)} (hc : GM E p s m args meth c RX10 cX10_hangs 8 (some .int)) : ∀ (n : Nat), ∀ (S : GS) (a2 : Int32) (a3 : Int32) (a6 : Int32) (a7 : Int32) (H : Heap) (locs : List Loc) (ls : Array Slot), lv_has ls 8 [(0, gR E 0), (2, .int a2), (3, .int a3), (6, .int a6), (7, .int a7)] → GX E S H locs → fX10_hangs_136 n S a2 a3 a6 a7 = some res → W p l e rmX10_hangs s m args below meth c H locs 0 0 (gZ E below args s (some (.int res.1)) res.2) (F0 m 136 ls []) := by
  obtain ⟨hx, hb, -, -, -, hown, hts, -, -⟩ := id hc
  intro n
  induction n with
  | zero => intro S a2 a3 a6 a7 H locs ls hl hG h; cases h
  | succ n ih =>
    intro S a2 a3 a6 a7 H locs ls hl hG h
    rw [fX10_hangs_136] at h
    refine lv_iload hx hb dX10_hangs_136 (lv_at hl 4 rfl) ?_
    refine lv_aload_n hx hb dX10_hangs_138 rfl (lv_at hl 0 rfl) ?_
    refine g_getR hc hG 0 5 flX10_23 rfl rfl rfl dX10_hangs_139 ?_
    refine g_getI hc hG 5 flX10_113 rfl rfl dX10_hangs_142 ?_
    refine lv_icmp_ge (tgt := 202) hx hb dX10_hangs_145 (by decide) (fun c1 => ?_) (fun c1 => ?_)
    · have h := g_pos c1 h
      refine lv_iload hx hb dX10_hangs_202 (lv_at hl 3 rfl) ?_
      exact g_iret hc hG dX10_hangs_204 h
    · have h := g_neg c1 h
      refine lv_aload_n hx hb dX10_hangs_148 rfl (lv_at hl 0 rfl) ?_
      refine g_getR hc hG 0 35 flX10_70 rfl rfl rfl dX10_hangs_149 ?_
      refine g_getR hc hG 35 36 flX10_160 rfl rfl rfl dX10_hangs_152 ?_
      refine g_getR hc hG 36 37 flX10_164 rfl rfl rfl dX10_hangs_155 ?_
      refine lv_iload hx hb dX10_hangs_158 (lv_at hl 4 rfl) ?_
      obtain ⟨hi2, h⟩ := g_if h
      refine g_iald hc hG 37 12 (a7.toNatClampNeg) rfl rfl hi2 rfl dX10_hangs_160 ?_
      refine lv_iload hx hb dX10_hangs_161 (lv_at hl 4 rfl) ?_
      refine lv_icmp_ne (tgt := 196) hx hb dX10_hangs_163 (by decide) (fun c3 => ?_) (fun c3 => ?_)
      · have h := g_neg c3 h
        obtain ⟨v4, ev4⟩ : ∃ y : Int32, y = (a7 + (1 : Int32)) := ⟨_, rfl⟩
        have h := g_let ev4 h
        refine lv_iinc (v := v4) (lv' := [(7, .int v4), (0, gR E 0), (2, .int a2), (3, .int a3), (6, .int a6)]) hx hb dX10_hangs_196 hl (k := 4) rfl (by rw [ev4]; rfl) (by decide) rfl (fun ls hl => ?_)
        refine lv_goto (tgt := 136) hx hb dX10_hangs_199 (by decide) ?_
        exact ih S a2 a3 a6 v4 _ _ _ (lv_sub hl [1, 2, 3, 4, 0] rfl) hG h
      · have h := g_pos c3 h
        refine lv_aload_n hx hb dX10_hangs_166 rfl (lv_at hl 0 rfl) ?_
        refine g_getR hc hG 0 35 flX10_70 rfl rfl rfl dX10_hangs_167 ?_
        refine lv_iload hx hb dX10_hangs_170 (lv_at hl 4 rfl) ?_
        refine lv_iload_n hx hb dX10_hangs_172 rfl (lv_at hl 1 rfl) ?_
        refine lv_iload_n hx hb dX10_hangs_173 rfl (lv_at hl 2 rfl) ?_
        obtain ⟨r6, S7, hm5, h⟩ := g_bd h
        refine g_callVi (As := [.int a7, .int a2, .int a3]) hc hG (mX9_standOf l E hm5) mlX10_167 mcX9_standOf miX9_standOf rfl rfl rfl rfl hl.1 rfl rfl ⟨by decide, by decide⟩ (Nat.le_of_ble_eq_true rfl) ⟨by decide, by decide⟩ dX10_hangs_174 rfl (fun H locs hG => ?_)
        refine lv_aload_n hx hb dX10_hangs_177 rfl (lv_at hl 0 rfl) ?_
        refine g_getR hc hG 0 52 flX10_74 rfl rfl rfl dX10_hangs_178 ?_
        refine lv_iload hx hb dX10_hangs_181 (lv_at hl 4 rfl) ?_
        refine g_iald hc hG 52 12 (a7.toNatClampNeg) rfl rfl hi2 rfl dX10_hangs_183 ?_
        refine lv_icmp_eq (tgt := 196) hx hb dX10_hangs_184 (by decide) (fun c8 => ?_) (fun c8 => ?_)
        · have h := g_pos c8 h
          obtain ⟨v9, ev9⟩ : ∃ y : Int32, y = (a7 + (1 : Int32)) := ⟨_, rfl⟩
          have h := g_let ev9 h
          refine lv_iinc (v := v9) (lv' := [(7, .int v9), (0, gR E 0), (2, .int a2), (3, .int a3), (6, .int a6)]) hx hb dX10_hangs_196 hl (k := 4) rfl (by rw [ev9]; rfl) (by decide) rfl (fun ls hl => ?_)
          refine lv_goto (tgt := 136) hx hb dX10_hangs_199 (by decide) ?_
          exact ih S7 a2 a3 a6 v9 _ _ _ (lv_sub hl [1, 2, 3, 4, 0] rfl) hG h
        · have h := g_neg c8 h
          refine lv_iload hx hb dX10_hangs_187 (lv_at hl 3 rfl) ?_
          refine lv_iconst (v := (1 : Int32)) hx hb dX10_hangs_189 (by decide) ?_
          refine lv_iload hx hb dX10_hangs_190 (lv_at hl 4 rfl) ?_
          refine lv_ishl hx hb dX10_hangs_192 ?_
          refine lv_ior hx hb dX10_hangs_193 ?_
          refine lv_topi (fun v10 ev10 => ?_)
          have h := g_let ev10 h
          refine lv_istore (lv' := [(6, .int v10), (0, gR E 0), (2, .int a2), (3, .int a3), (7, .int a7)]) hx hb dX10_hangs_194 hl (by decide) rfl (fun ls hl => ?_)
          obtain ⟨v11, ev11⟩ : ∃ y : Int32, y = (a7 + (1 : Int32)) := ⟨_, rfl⟩
          have h := g_let ev11 h
          refine lv_iinc (v := v11) (lv' := [(7, .int v11), (6, .int v10), (0, gR E 0), (2, .int a2), (3, .int a3)]) hx hb dX10_hangs_196 hl (k := 4) rfl (by rw [ev11]; rfl) (by decide) rfl (fun ls hl => ?_)
          refine lv_goto (tgt := 136) hx hb dX10_hangs_199 (by decide) ?_
          exact ih S7 a2 a3 v10 v11 _ _ _ (lv_sub hl [2, 3, 4, 1, 0] rfl) hG h
def fX10_hangs_49 : Nat → GS → Int32 → Int32 → Int32 → Int32 → Int32 → Int32 → Option (Int32 × GS)
  | 0, _, _, _, _, _, _, _ => none
  | n + 1, S, a1, a2, a3, a4, a5, a6 => (if (S.1 5 0) ≤ a6 then gbd (fX9_see S (S.2.2 0) a5 a1) fun r3 S4 => gbd (fX9_goToDay S4 a4) fun r6 S7 => glet (0 : Int32) fun v8 => glet (0 : Int32) fun v9 => (fX10_hangs_136 FU S7 a2 a3 v8 v9) else (if gib a6 12 = true then (if (S.1 37 a6.toNatClampNeg) = a6 then gbd (fX9_standOf S a6 a2 a3) fun r15 S16 => glet (gsi S16 52 (a6.toNatClampNeg) r15) fun S17 => glet (a6 + (1 : Int32)) fun v18 => (fX10_hangs_49 n S17 a1 a2 a3 a4 a5 v18) else glet (gsi S 52 (a6.toNatClampNeg) (0 : Int32)) fun S12 => glet (a6 + (1 : Int32)) fun v13 => (fX10_hangs_49 n S12 a1 a2 a3 a4 a5 v13)) else none))
set_option maxRecDepth 100000 in
set_option maxHeartbeats 4000000 in
theorem wX10_hangs_49 {p : Program} {l : Launch} {e : Env} {s : State} {m : MethodId} {args : Array Value} {below : List Frame} {meth : Method} {c : Code} {E : GE} {res : (Int32 × GS)} (hc : GM E p s m args meth c RX10 cX10_hangs 8 (some .int)) : ∀ (n : Nat), ∀ (S : GS) (a1 : Int32) (a2 : Int32) (a3 : Int32) (a4 : Int32) (a5 : Int32) (a6 : Int32) (H : Heap) (locs : List Loc) (ls : Array Slot), lv_has ls 8 [(0, gR E 0), (1, .int a1), (2, .int a2), (3, .int a3), (4, .int a4), (5, .int a5), (6, .int a6)] → GX E S H locs → fX10_hangs_49 n S a1 a2 a3 a4 a5 a6 = some res → W p l e rmX10_hangs s m args below meth c H locs 0 0 (gZ E below args s (some (.int res.1)) res.2) (F0 m 49 ls []) := by
  obtain ⟨hx, hb, -, -, -, hown, hts, -, -⟩ := id hc
  intro n
  induction n with
  | zero => intro S a1 a2 a3 a4 a5 a6 H locs ls hl hG h; cases h
  | succ n ih =>
    intro S a1 a2 a3 a4 a5 a6 H locs ls hl hG h
    rw [fX10_hangs_49] at h
    refine lv_iload hx hb dX10_hangs_49 (lv_at hl 6 rfl) ?_
    refine lv_aload_n hx hb dX10_hangs_51 rfl (lv_at hl 0 rfl) ?_
    refine g_getR hc hG 0 5 flX10_23 rfl rfl rfl dX10_hangs_52 ?_
    refine g_getI hc hG 5 flX10_113 rfl rfl dX10_hangs_55 ?_
    refine lv_icmp_ge (tgt := 107) hx hb dX10_hangs_58 (by decide) (fun c1 => ?_) (fun c1 => ?_)
    · have h := g_pos c1 h
      refine lv_aload_n hx hb dX10_hangs_107 rfl (lv_at hl 0 rfl) ?_
      refine g_getR hc hG 0 35 flX10_70 rfl rfl rfl dX10_hangs_108 ?_
      refine lv_aload_n hx hb dX10_hangs_111 rfl (lv_at hl 0 rfl) ?_
      refine g_getR hc hG 0 (S.2.2 0) flX10_44 rfl rfl rfl dX10_hangs_112 ?_
      refine lv_iload hx hb dX10_hangs_115 (lv_at hl 5 rfl) ?_
      refine lv_iload_n hx hb dX10_hangs_117 rfl (lv_at hl 1 rfl) ?_
      obtain ⟨r3, S4, hm2, h⟩ := g_bd h
      refine g_callVv (As := [gR E (S.2.2 0), .int a5, .int a1]) hc hG (mX9_see l E hm2) mlX10_153 mcX9_see miX9_see rfl rfl rfl rfl hl.1 rfl rfl ⟨by decide, by decide⟩ (Nat.le_of_ble_eq_true rfl) ⟨by decide, by decide⟩ dX10_hangs_118 rfl (fun H locs hG => ?_)
      refine lv_aload_n hx hb dX10_hangs_121 rfl (lv_at hl 0 rfl) ?_
      refine g_getR hc hG 0 35 flX10_70 rfl rfl rfl dX10_hangs_122 ?_
      refine lv_iload hx hb dX10_hangs_125 (lv_at hl 4 rfl) ?_
      obtain ⟨r6, S7, hm5, h⟩ := g_bd h
      refine g_callVv (As := [.int a4]) hc hG (mX9_goToDay l E hm5) mlX10_157 mcX9_goToDay miX9_goToDay rfl rfl rfl rfl hl.1 rfl rfl ⟨by decide, by decide⟩ (Nat.le_of_ble_eq_true rfl) ⟨by decide, by decide⟩ dX10_hangs_127 rfl (fun H locs hG => ?_)
      refine lv_iconst (v := (0 : Int32)) hx hb dX10_hangs_130 (by decide) ?_
      refine lv_topi (fun v8 ev8 => ?_)
      have h := g_let ev8 h
      refine lv_istore (lv' := [(6, .int v8), (0, gR E 0), (1, .int a1), (2, .int a2), (3, .int a3), (4, .int a4), (5, .int a5)]) hx hb dX10_hangs_131 hl (by decide) rfl (fun ls hl => ?_)
      refine lv_iconst (v := (0 : Int32)) hx hb dX10_hangs_133 (by decide) ?_
      refine lv_topi (fun v9 ev9 => ?_)
      have h := g_let ev9 h
      refine lv_istore (lv' := [(7, .int v9), (6, .int v8), (0, gR E 0), (1, .int a1), (2, .int a2), (3, .int a3), (4, .int a4), (5, .int a5)]) hx hb dX10_hangs_134 hl (by decide) rfl (fun ls hl => ?_)
      exact wX10_hangs_136 hc FU S7 a2 a3 v8 v9 _ _ _ (lv_sub hl [2, 4, 5, 1, 0] rfl) hG h
    · have h := g_neg c1 h
      refine lv_aload_n hx hb dX10_hangs_61 rfl (lv_at hl 0 rfl) ?_
      refine g_getR hc hG 0 52 flX10_74 rfl rfl rfl dX10_hangs_62 ?_
      refine lv_iload hx hb dX10_hangs_65 (lv_at hl 6 rfl) ?_
      refine lv_aload_n hx hb dX10_hangs_67 rfl (lv_at hl 0 rfl) ?_
      refine g_getR hc hG 0 35 flX10_70 rfl rfl rfl dX10_hangs_68 ?_
      refine g_getR hc hG 35 36 flX10_160 rfl rfl rfl dX10_hangs_71 ?_
      refine g_getR hc hG 36 37 flX10_164 rfl rfl rfl dX10_hangs_74 ?_
      refine lv_iload hx hb dX10_hangs_77 (lv_at hl 6 rfl) ?_
      obtain ⟨hi10, h⟩ := g_if h
      refine g_iald hc hG 37 12 (a6.toNatClampNeg) rfl rfl hi10 rfl dX10_hangs_79 ?_
      refine lv_iload hx hb dX10_hangs_80 (lv_at hl 6 rfl) ?_
      refine lv_icmp_ne (tgt := 99) hx hb dX10_hangs_82 (by decide) (fun c11 => ?_) (fun c11 => ?_)
      · have h := g_neg c11 h
        refine lv_iconst (v := (0 : Int32)) hx hb dX10_hangs_99 (by decide) ?_
        refine g_iast hc hG 52 12 (a6.toNatClampNeg) rfl rfl hi10 rfl dX10_hangs_100 (fun S12 H locs eS12 hG => ?_)
        have h := g_let eS12 h
        obtain ⟨v13, ev13⟩ : ∃ y : Int32, y = (a6 + (1 : Int32)) := ⟨_, rfl⟩
        have h := g_let ev13 h
        refine lv_iinc (v := v13) (lv' := [(6, .int v13), (0, gR E 0), (1, .int a1), (2, .int a2), (3, .int a3), (4, .int a4), (5, .int a5)]) hx hb dX10_hangs_101 hl (k := 6) rfl (by rw [ev13]; rfl) (by decide) rfl (fun ls hl => ?_)
        refine lv_goto (tgt := 49) hx hb dX10_hangs_104 (by decide) ?_
        exact ih S12 a1 a2 a3 a4 a5 v13 _ _ _ (lv_sub hl [1, 2, 3, 4, 5, 6, 0] rfl) hG h
      · have h := g_pos c11 h
        refine lv_aload_n hx hb dX10_hangs_85 rfl (lv_at hl 0 rfl) ?_
        refine g_getR hc hG 0 35 flX10_70 rfl rfl rfl dX10_hangs_86 ?_
        refine lv_iload hx hb dX10_hangs_89 (lv_at hl 6 rfl) ?_
        refine lv_iload_n hx hb dX10_hangs_91 rfl (lv_at hl 2 rfl) ?_
        refine lv_iload_n hx hb dX10_hangs_92 rfl (lv_at hl 3 rfl) ?_
        obtain ⟨r15, S16, hm14, h⟩ := g_bd h
        refine g_callVi (As := [.int a6, .int a2, .int a3]) hc hG (mX9_standOf l E hm14) mlX10_167 mcX9_standOf miX9_standOf rfl rfl rfl rfl hl.1 rfl rfl ⟨by decide, by decide⟩ (Nat.le_of_ble_eq_true rfl) ⟨by decide, by decide⟩ dX10_hangs_93 rfl (fun H locs hG => ?_)
        refine lv_goto (tgt := 100) hx hb dX10_hangs_96 (by decide) ?_
        refine g_iast hc hG 52 12 (a6.toNatClampNeg) rfl rfl hi10 rfl dX10_hangs_100 (fun S17 H locs eS17 hG => ?_)
        have h := g_let eS17 h
        obtain ⟨v18, ev18⟩ : ∃ y : Int32, y = (a6 + (1 : Int32)) := ⟨_, rfl⟩
        have h := g_let ev18 h
        refine lv_iinc (v := v18) (lv' := [(6, .int v18), (0, gR E 0), (1, .int a1), (2, .int a2), (3, .int a3), (4, .int a4), (5, .int a5)]) hx hb dX10_hangs_101 hl (k := 6) rfl (by rw [ev18]; rfl) (by decide) rfl (fun ls hl => ?_)
        refine lv_goto (tgt := 49) hx hb dX10_hangs_104 (by decide) ?_
        exact ih S17 a1 a2 a3 a4 a5 v18 _ _ _ (lv_sub hl [1, 2, 3, 4, 5, 6, 0] rfl) hG h
def fX10_hangs (S : GS) (a1 : Int32) (a2 : Int32) (a3 : Int32) (a4 : Int32) (a5 : Int32) : Option (Int32 × GS) := gbv (fX10_isCase S a1) fun r2 => (if r2 = 0 then (some ((-1 : Int32), S)) else gbv (fX10_isAskable S a2 a3 a4 a5) fun r5 => (if r5 = 0 then (some ((-1 : Int32), S)) else gbd (fX9_see S (S.2.2 0) a5 (-1 : Int32)) fun r8 S9 => gbd (fX9_goToDay S9 a4) fun r11 S12 => glet (0 : Int32) fun v13 => (fX10_hangs_49 FU S12 a1 a2 a3 a4 a5 v13)))
set_option maxRecDepth 100000 in
set_option maxHeartbeats 4000000 in
theorem wX10_hangs_0 {p : Program} {l : Launch} {e : Env} {s : State} {m : MethodId} {args : Array Value} {below : List Frame} {meth : Method} {c : Code} {E : GE} {res : (Int32 × GS)} (hc : GM E p s m args meth c RX10 cX10_hangs 8 (some .int)) : ∀ (S : GS) (a1 : Int32) (a2 : Int32) (a3 : Int32) (a4 : Int32) (a5 : Int32) (H : Heap) (locs : List Loc) (ls : Array Slot), lv_has ls 8 [(0, gR E 0), (1, .int a1), (2, .int a2), (3, .int a3), (4, .int a4), (5, .int a5)] → GX E S H locs → fX10_hangs S a1 a2 a3 a4 a5 = some res → W p l e rmX10_hangs s m args below meth c H locs 0 0 (gZ E below args s (some (.int res.1)) res.2) (F0 m 0 ls []) := by
  obtain ⟨hx, hb, -, -, -, hown, hts, -, -⟩ := id hc
  intro S a1 a2 a3 a4 a5 H locs ls hl hG h
  unfold fX10_hangs at h
  refine lv_aload_n hx hb dX10_hangs_0 rfl (lv_at hl 0 rfl) ?_
  refine lv_iload_n hx hb dX10_hangs_1 rfl (lv_at hl 1 rfl) ?_
  obtain ⟨r2, hm1, h⟩ := g_bv h
  refine g_callVi (As := [.int a1]) hc hG (mX10_isCase l E hm1) mlX10_136 mcX10_isCase miX10_isCase rfl rfl rfl rfl hl.1 rfl rfl ⟨by decide, by decide⟩ (Nat.le_of_ble_eq_true rfl) ⟨by decide, by decide⟩ dX10_hangs_2 rfl (fun H locs hG => ?_)
  refine lv_if_eq (tgt := 21) hx hb dX10_hangs_5 (by decide) (fun c3 => ?_) (fun c3 => ?_)
  · have h := g_pos c3 h
    refine lv_iconst (v := (-1 : Int32)) hx hb dX10_hangs_21 (by decide) ?_
    exact g_iret hc hG dX10_hangs_22 h
  · have h := g_neg c3 h
    refine lv_aload_n hx hb dX10_hangs_8 rfl (lv_at hl 0 rfl) ?_
    refine lv_iload_n hx hb dX10_hangs_9 rfl (lv_at hl 2 rfl) ?_
    refine lv_iload_n hx hb dX10_hangs_10 rfl (lv_at hl 3 rfl) ?_
    refine lv_iload hx hb dX10_hangs_11 (lv_at hl 4 rfl) ?_
    refine lv_iload hx hb dX10_hangs_13 (lv_at hl 5 rfl) ?_
    obtain ⟨r5, hm4, h⟩ := g_bv h
    refine g_callVi (As := [.int a2, .int a3, .int a4, .int a5]) hc hG (mX10_isAskable l E hm4) mlX10_149 mcX10_isAskable miX10_isAskable rfl rfl rfl rfl hl.1 rfl rfl ⟨by decide, by decide⟩ (Nat.le_of_ble_eq_true rfl) ⟨by decide, by decide⟩ dX10_hangs_15 rfl (fun H locs hG => ?_)
    refine lv_if_ne (tgt := 23) hx hb dX10_hangs_18 (by decide) (fun c6 => ?_) (fun c6 => ?_)
    · have h := g_neg c6 h
      refine lv_aload_n hx hb dX10_hangs_23 rfl (lv_at hl 0 rfl) ?_
      refine g_getR hc hG 0 35 flX10_70 rfl rfl rfl dX10_hangs_24 ?_
      refine lv_aload_n hx hb dX10_hangs_27 rfl (lv_at hl 0 rfl) ?_
      refine g_getR hc hG 0 (S.2.2 0) flX10_44 rfl rfl rfl dX10_hangs_28 ?_
      refine lv_iload hx hb dX10_hangs_31 (lv_at hl 5 rfl) ?_
      refine lv_iconst (v := (-1 : Int32)) hx hb dX10_hangs_33 (by decide) ?_
      obtain ⟨r8, S9, hm7, h⟩ := g_bd h
      refine g_callVv (As := [gR E (S.2.2 0), .int a5, .int (-1 : Int32)]) hc hG (mX9_see l E hm7) mlX10_153 mcX9_see miX9_see rfl rfl rfl rfl hl.1 rfl rfl ⟨by decide, by decide⟩ (Nat.le_of_ble_eq_true rfl) ⟨by decide, by decide⟩ dX10_hangs_34 rfl (fun H locs hG => ?_)
      refine lv_aload_n hx hb dX10_hangs_37 rfl (lv_at hl 0 rfl) ?_
      refine g_getR hc hG 0 35 flX10_70 rfl rfl rfl dX10_hangs_38 ?_
      refine lv_iload hx hb dX10_hangs_41 (lv_at hl 4 rfl) ?_
      obtain ⟨r11, S12, hm10, h⟩ := g_bd h
      refine g_callVv (As := [.int a4]) hc hG (mX9_goToDay l E hm10) mlX10_157 mcX9_goToDay miX9_goToDay rfl rfl rfl rfl hl.1 rfl rfl ⟨by decide, by decide⟩ (Nat.le_of_ble_eq_true rfl) ⟨by decide, by decide⟩ dX10_hangs_43 rfl (fun H locs hG => ?_)
      refine lv_iconst (v := (0 : Int32)) hx hb dX10_hangs_46 (by decide) ?_
      refine lv_topi (fun v13 ev13 => ?_)
      have h := g_let ev13 h
      refine lv_istore (lv' := [(6, .int v13), (0, gR E 0), (1, .int a1), (2, .int a2), (3, .int a3), (4, .int a4), (5, .int a5)]) hx hb dX10_hangs_47 hl (by decide) rfl (fun ls hl => ?_)
      exact wX10_hangs_49 hc FU S12 a1 a2 a3 a4 a5 v13 _ _ _ (lv_sub hl [1, 2, 3, 4, 5, 6, 0] rfl) hG h
    · have h := g_pos c6 h
      refine lv_iconst (v := (-1 : Int32)) hx hb dX10_hangs_21 (by decide) ?_
      exact g_iret hc hG dX10_hangs_22 h
theorem mX10_hangs (l : Launch) (E : GE) {S : GS} {a1 : Int32} {a2 : Int32} {a3 : Int32} {a4 : Int32} {a5 : Int32} {res : (Int32 × GS)} (h : fX10_hangs S a1 a2 a3 a4 a5 = some res) : gMet l E yX10_hangs cX10_hangs 8 (some .int) rmX10_hangs [gR E 0, .int a1, .int a2, .int a3, .int a4, .int a5] S (some (.int res.1)) res.2 :=
  g_met (by decide) (Nat.le_of_ble_eq_true rfl) rfl fun p e s m below meth c H ls hc hG hl => wX10_hangs_0 hc S a1 a2 a3 a4 a5 H [] ls hl hG h

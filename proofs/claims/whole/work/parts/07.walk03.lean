abbrev rmX9_isHeld : Room := { frames := 2, cells := 0, slots := 0, locals := 49 }
def fX9_isHeld (S : GS) (a1 : Int32) (a2 : Int32) (a3 : Int32) : Option Int32 := gbv (fX9_votesFor S a1 a2 a3) fun r2 => (if gib a1 32 = true then (if (r2 * (2 : Int32)) ≤ (S.1 10 a1.toNatClampNeg) then (some (0 : Int32)) else (some (1 : Int32))) else none)
set_option maxRecDepth 100000 in
set_option maxHeartbeats 4000000 in
theorem wX9_isHeld_0 {p : Program} {l : Launch} {e : Env} {s : State} {m : MethodId} {args : Array Value} {below : List Frame} {meth : Method} {c : Code} {E : GE} {res : Int32} (hc : GM E p s m args meth c RX9 cX9_isHeld 4 (some .boolean)) : ∀ (S : GS) (a1 : Int32) (a2 : Int32) (a3 : Int32) (H : Heap) (locs : List Loc) (ls : Array Slot), lv_has ls 4 [(0, gR E 35), (1, .int a1), (2, .int a2), (3, .int a3)] → GX E S H locs → fX9_isHeld S a1 a2 a3 = some res → W p l e rmX9_isHeld s m args below meth c H locs 0 0 (gZ E below args s (some (.int res)) S) (F0 m 0 ls []) := by
  obtain ⟨hx, hb, -, -, -, hown, hts, -, -⟩ := id hc
  intro S a1 a2 a3 H locs ls hl hG h
  unfold fX9_isHeld at h
  refine lv_aload_n hx hb dX9_isHeld_0 rfl (lv_at hl 0 rfl) ?_
  refine lv_iload_n hx hb dX9_isHeld_1 rfl (lv_at hl 1 rfl) ?_
  refine lv_iload_n hx hb dX9_isHeld_2 rfl (lv_at hl 2 rfl) ?_
  refine lv_iload_n hx hb dX9_isHeld_3 rfl (lv_at hl 3 rfl) ?_
  obtain ⟨r2, hm1, h⟩ := g_bv h
  refine g_callVi (As := [.int a1, .int a2, .int a3]) hc hG (mX9_votesFor l E hm1) mlX9_148 mcX9_votesFor miX9_votesFor rfl rfl rfl rfl hl.1 rfl rfl ⟨by decide, by decide⟩ (Nat.le_of_ble_eq_true rfl) ⟨by decide, by decide⟩ dX9_isHeld_4 rfl (fun H locs hG => ?_)
  refine lv_iconst (v := (2 : Int32)) hx hb dX9_isHeld_7 (by decide) ?_
  refine lv_imul hx hb dX9_isHeld_8 ?_
  refine lv_aload_n hx hb dX9_isHeld_9 rfl (lv_at hl 0 rfl) ?_
  refine g_getR hc hG 35 7 flX9_29 rfl rfl rfl dX9_isHeld_10 ?_
  refine g_getR hc hG 7 10 flX9_151 rfl rfl rfl dX9_isHeld_13 ?_
  refine lv_iload_n hx hb dX9_isHeld_16 rfl (lv_at hl 1 rfl) ?_
  obtain ⟨hi3, h⟩ := g_if h
  refine g_iald hc hG 10 32 (a1.toNatClampNeg) rfl rfl hi3 rfl dX9_isHeld_17 ?_
  refine lv_icmp_le (tgt := 25) hx hb dX9_isHeld_18 (by decide) (fun c4 => ?_) (fun c4 => ?_)
  · have h := g_pos c4 h
    refine lv_iconst (v := (0 : Int32)) hx hb dX9_isHeld_25 (by decide) ?_
    exact g_zretp hc hG (Or.inl rfl) dX9_isHeld_26 h
  · have h := g_neg c4 h
    refine lv_iconst (v := (1 : Int32)) hx hb dX9_isHeld_21 (by decide) ?_
    refine lv_goto (tgt := 26) hx hb dX9_isHeld_22 (by decide) ?_
    exact g_zretp hc hG (Or.inr rfl) dX9_isHeld_26 h
theorem mX9_isHeld (l : Launch) (E : GE) {S : GS} {a1 : Int32} {a2 : Int32} {a3 : Int32} {res : Int32} (h : fX9_isHeld S a1 a2 a3 = some res) : gMet l E yX9_isHeld cX9_isHeld 4 (some .boolean) rmX9_isHeld [gR E 35, .int a1, .int a2, .int a3] S (some (.int res)) S :=
  g_met (by decide) (Nat.le_of_ble_eq_true rfl) rfl fun p e s m below meth c H ls hc hG hl => wX9_isHeld_0 hc S a1 a2 a3 H [] ls hl hG h
abbrev rmX9_isThere : Room := { frames := 1, cells := 0, slots := 0, locals := 21 }
def fX9_isThere (S : GS) (a1 : Int32) : Option Int32 := gbv (fX10_has S (S.1 35 6) a1) fun r2 => (if (r2 = 0 ∨ r2 = 1) then (some r2) else none)
set_option maxRecDepth 100000 in
set_option maxHeartbeats 4000000 in
theorem wX9_isThere_0 {p : Program} {l : Launch} {e : Env} {s : State} {m : MethodId} {args : Array Value} {below : List Frame} {meth : Method} {c : Code} {E : GE} {res : Int32} (hc : GM E p s m args meth c RX9 cX9_isThere 2 (some .boolean)) : ∀ (S : GS) (a1 : Int32) (H : Heap) (locs : List Loc) (ls : Array Slot), lv_has ls 2 [(0, gR E 35), (1, .int a1)] → GX E S H locs → fX9_isThere S a1 = some res → W p l e rmX9_isThere s m args below meth c H locs 0 0 (gZ E below args s (some (.int res)) S) (F0 m 0 ls []) := by
  obtain ⟨hx, hb, -, -, -, hown, hts, -, -⟩ := id hc
  intro S a1 H locs ls hl hG h
  unfold fX9_isThere at h
  refine lv_aload_n hx hb dX9_isThere_0 rfl (lv_at hl 0 rfl) ?_
  refine g_getI hc hG 35 flX9_74 rfl rfl dX9_isThere_1 ?_
  refine lv_iload_n hx hb dX9_isThere_4 rfl (lv_at hl 1 rfl) ?_
  obtain ⟨r2, hm1, h⟩ := g_bv h
  refine g_callSNi (As := [.int (S.1 35 6), .int a1]) hc hG (mX10_has l E hm1) mlX9_77 mcX10_has msX10_has rfl hl.1 rfl rfl ⟨by decide, by decide⟩ (Nat.le_of_ble_eq_true rfl) ⟨by decide, by decide⟩ dX9_isThere_5 rfl (fun H locs hG => ?_)
  obtain ⟨hz3, h⟩ := g_if h
  exact g_zretp hc hG hz3 dX9_isThere_8 h
theorem mX9_isThere (l : Launch) (E : GE) {S : GS} {a1 : Int32} {res : Int32} (h : fX9_isThere S a1 = some res) : gMet l E yX9_isThere cX9_isThere 2 (some .boolean) rmX9_isThere [gR E 35, .int a1] S (some (.int res)) S :=
  g_met (by decide) (Nat.le_of_ble_eq_true rfl) rfl fun p e s m below meth c H ls hc hG hl => wX9_isThere_0 hc S a1 H [] ls hl hG h
abbrev rmX9_alive : Room := { frames := 0, cells := 0, slots := 0, locals := 0 }
def fX9_alive (S : GS) (a1 : Int32) : Option Int32 := (some ((a1 &&& (S.1 35 6)) &&& ((S.1 35 7) ^^^ (-1 : Int32))))
set_option maxRecDepth 100000 in
set_option maxHeartbeats 4000000 in
theorem wX9_alive_0 {p : Program} {l : Launch} {e : Env} {s : State} {m : MethodId} {args : Array Value} {below : List Frame} {meth : Method} {c : Code} {E : GE} {res : Int32} (hc : GM E p s m args meth c RX9 cX9_alive 2 (some .int)) : ∀ (S : GS) (a1 : Int32) (H : Heap) (locs : List Loc) (ls : Array Slot), lv_has ls 2 [(0, gR E 35), (1, .int a1)] → GX E S H locs → fX9_alive S a1 = some res → W p l e rmX9_alive s m args below meth c H locs 0 0 (gZ E below args s (some (.int res)) S) (F0 m 0 ls []) := by
  obtain ⟨hx, hb, -, -, -, hown, hts, -, -⟩ := id hc
  intro S a1 H locs ls hl hG h
  unfold fX9_alive at h
  refine lv_iload_n hx hb dX9_alive_0 rfl (lv_at hl 1 rfl) ?_
  refine lv_aload_n hx hb dX9_alive_1 rfl (lv_at hl 0 rfl) ?_
  refine g_getI hc hG 35 flX9_74 rfl rfl dX9_alive_2 ?_
  refine lv_iand hx hb dX9_alive_5 ?_
  refine lv_aload_n hx hb dX9_alive_6 rfl (lv_at hl 0 rfl) ?_
  refine g_getI hc hG 35 flX9_84 rfl rfl dX9_alive_7 ?_
  refine lv_iconst (v := (-1 : Int32)) hx hb dX9_alive_10 (by decide) ?_
  refine lv_ixor hx hb dX9_alive_11 ?_
  refine lv_iand hx hb dX9_alive_12 ?_
  exact g_iretp hc hG dX9_alive_13 h
theorem mX9_alive (l : Launch) (E : GE) {S : GS} {a1 : Int32} {res : Int32} (h : fX9_alive S a1 = some res) : gMet l E yX9_alive cX9_alive 2 (some .int) rmX9_alive [gR E 35, .int a1] S (some (.int res)) S :=
  g_met (by decide) (Nat.le_of_ble_eq_true rfl) rfl fun p e s m below meth c H ls hc hG hl => wX9_alive_0 hc S a1 H [] ls hl hG h
abbrev rmX9_goTo : Room := { frames := 2, cells := 0, slots := 0, locals := 42 }
def fX9_goTo_25 : Nat → GS → Int32 → Option (Unit × GS)
  | 0, _, _ => none
  | n + 1, S, a3 => (if a3 < 0 then (some ((), S)) else (if gib a3 32 = true then glet (S.1 13 a3.toNatClampNeg) fun v3 => gbv (fX9_isThere S v3) fun r5 => (if r5 = 0 then glet (a3 + (-1 : Int32)) fun v7 => (fX9_goTo_25 n S v7) else (if gib v3 32 = true then gbv (fX9_alive S (S.1 39 v3.toNatClampNeg)) fun r10 => (if r10 = 0 then glet (a3 + (-1 : Int32)) fun v12 => (fX9_goTo_25 n S v12) else glet (gsi S 35 7 ((S.1 35 7) ||| ((1 : Int32) <<< (v3 &&& 31)))) fun S13 => glet (a3 + (-1 : Int32)) fun v14 => (fX9_goTo_25 n S13 v14)) else none)) else none))
set_option maxRecDepth 100000 in
set_option maxHeartbeats 4000000 in
theorem wX9_goTo_25 {p : Program} {l : Launch} {e : Env} {s : State} {m : MethodId} {args : Array Value} {below : List Frame} {meth : Method} {c : Code} {E : GE} {res : (Unit × GS)} (hc : GM E p s m args meth c RX9 cX9_goTo 5 none) : ∀ (n : Nat), ∀ (S : GS) (a3 : Int32) (H : Heap) (locs : List Loc) (ls : Array Slot), lv_has ls 5 [(0, gR E 35), (3, .int a3)] → GX E S H locs → fX9_goTo_25 n S a3 = some res → W p l e rmX9_goTo s m args below meth c H locs 0 0 (gZ E below args s none res.2) (F0 m 25 ls []) := by
  obtain ⟨hx, hb, -, -, -, hown, hts, -, -⟩ := id hc
  intro n
  induction n with
  | zero => intro S a3 H locs ls hl hG h; cases h
  | succ n ih =>
    intro S a3 H locs ls hl hG h
    rw [fX9_goTo_25] at h
    refine lv_iload_n hx hb dX9_goTo_25 rfl (lv_at hl 1 rfl) ?_
    refine lv_if_lt (tgt := 85) hx hb dX9_goTo_26 (by decide) (fun c1 => ?_) (fun c1 => ?_)
    · have h := g_pos c1 h
      exact g_vret hc hG dX9_goTo_85 h
    · have h := g_neg c1 h
      refine lv_aload_n hx hb dX9_goTo_29 rfl (lv_at hl 0 rfl) ?_
      refine g_getR hc hG 35 7 flX9_29 rfl rfl rfl dX9_goTo_30 ?_
      refine g_getR hc hG 7 13 flX9_58 rfl rfl rfl dX9_goTo_33 ?_
      refine lv_iload_n hx hb dX9_goTo_36 rfl (lv_at hl 1 rfl) ?_
      obtain ⟨hi2, h⟩ := g_if h
      refine g_iald hc hG 13 32 (a3.toNatClampNeg) rfl rfl hi2 rfl dX9_goTo_37 ?_
      refine lv_topi (fun v3 ev3 => ?_)
      have h := g_let ev3 h
      refine lv_istore (lv' := [(4, .int v3), (0, gR E 35), (3, .int a3)]) hx hb dX9_goTo_38 hl (by decide) rfl (fun ls hl => ?_)
      refine lv_aload_n hx hb dX9_goTo_40 rfl (lv_at hl 1 rfl) ?_
      refine lv_iload hx hb dX9_goTo_41 (lv_at hl 0 rfl) ?_
      obtain ⟨r5, hm4, h⟩ := g_bv h
      refine g_callVi (As := [.int v3]) hc hG (mX9_isThere l E hm4) mlX9_87 mcX9_isThere miX9_isThere rfl rfl rfl rfl hl.1 rfl rfl ⟨by decide, by decide⟩ (Nat.le_of_ble_eq_true rfl) ⟨by decide, by decide⟩ dX9_goTo_43 rfl (fun H locs hG => ?_)
      refine lv_if_eq (tgt := 79) hx hb dX9_goTo_46 (by decide) (fun c6 => ?_) (fun c6 => ?_)
      · have h := g_pos c6 h
        obtain ⟨v7, ev7⟩ : ∃ y : Int32, y = (a3 + (-1 : Int32)) := ⟨_, rfl⟩
        have h := g_let ev7 h
        refine lv_iinc (v := v7) (lv' := [(3, .int v7), (4, .int v3), (0, gR E 35)]) hx hb dX9_goTo_79 hl (k := 2) rfl (by rw [ev7]; rfl) (by decide) rfl (fun ls hl => ?_)
        refine lv_goto (tgt := 25) hx hb dX9_goTo_82 (by decide) ?_
        exact ih S v7 _ _ _ (lv_sub hl [2, 0] rfl) hG h
      · have h := g_neg c6 h
        refine lv_aload_n hx hb dX9_goTo_49 rfl (lv_at hl 1 rfl) ?_
        refine lv_aload_n hx hb dX9_goTo_50 rfl (lv_at hl 1 rfl) ?_
        refine g_getR hc hG 35 36 flX9_40 rfl rfl rfl dX9_goTo_51 ?_
        refine g_getR hc hG 36 39 flX9_90 rfl rfl rfl dX9_goTo_54 ?_
        refine lv_iload hx hb dX9_goTo_57 (lv_at hl 0 rfl) ?_
        obtain ⟨hi8, h⟩ := g_if h
        refine g_iald hc hG 39 32 (v3.toNatClampNeg) rfl rfl hi8 rfl dX9_goTo_59 ?_
        obtain ⟨r10, hm9, h⟩ := g_bv h
        refine g_callVi (As := [.int (S.1 39 v3.toNatClampNeg)]) hc hG (mX9_alive l E hm9) mlX9_93 mcX9_alive miX9_alive rfl rfl rfl rfl hl.1 rfl rfl ⟨by decide, by decide⟩ (Nat.le_of_ble_eq_true rfl) ⟨by decide, by decide⟩ dX9_goTo_60 rfl (fun H locs hG => ?_)
        refine lv_if_eq (tgt := 79) hx hb dX9_goTo_63 (by decide) (fun c11 => ?_) (fun c11 => ?_)
        · have h := g_pos c11 h
          obtain ⟨v12, ev12⟩ : ∃ y : Int32, y = (a3 + (-1 : Int32)) := ⟨_, rfl⟩
          have h := g_let ev12 h
          refine lv_iinc (v := v12) (lv' := [(3, .int v12), (4, .int v3), (0, gR E 35)]) hx hb dX9_goTo_79 hl (k := 2) rfl (by rw [ev12]; rfl) (by decide) rfl (fun ls hl => ?_)
          refine lv_goto (tgt := 25) hx hb dX9_goTo_82 (by decide) ?_
          exact ih S v12 _ _ _ (lv_sub hl [2, 0] rfl) hG h
        · have h := g_neg c11 h
          refine lv_aload_n hx hb dX9_goTo_66 rfl (lv_at hl 1 rfl) ?_
          refine lv_dup hx hb dX9_goTo_67 rfl ?_
          refine g_getI hc hG 35 flX9_84 rfl rfl dX9_goTo_68 ?_
          refine lv_iconst (v := (1 : Int32)) hx hb dX9_goTo_71 (by decide) ?_
          refine lv_iload hx hb dX9_goTo_72 (lv_at hl 0 rfl) ?_
          refine lv_ishl hx hb dX9_goTo_74 ?_
          refine lv_ior hx hb dX9_goTo_75 ?_
          refine g_putI hc hG 35 fpX9_84 rfl rfl rfl rfl dX9_goTo_76 (fun S13 H locs eS13 hG => ?_)
          have h := g_let eS13 h
          obtain ⟨v14, ev14⟩ : ∃ y : Int32, y = (a3 + (-1 : Int32)) := ⟨_, rfl⟩
          have h := g_let ev14 h
          refine lv_iinc (v := v14) (lv' := [(3, .int v14), (4, .int v3), (0, gR E 35)]) hx hb dX9_goTo_79 hl (k := 2) rfl (by rw [ev14]; rfl) (by decide) rfl (fun ls hl => ?_)
          refine lv_goto (tgt := 25) hx hb dX9_goTo_82 (by decide) ?_
          exact ih S13 v14 _ _ _ (lv_sub hl [2, 0] rfl) hG h
def fX9_goTo (S : GS) (a1 : Int32) (a2 : Int32) : Option (Unit × GS) := glet (gsi S 35 5 a1) fun S1 => glet (gsi S1 35 6 a2) fun S2 => glet (gsi S2 35 7 (0 : Int32)) fun S3 => glet ((S3.1 7 0) - (1 : Int32)) fun v4 => (fX9_goTo_25 FU S3 v4)
set_option maxRecDepth 100000 in
set_option maxHeartbeats 4000000 in
theorem wX9_goTo_0 {p : Program} {l : Launch} {e : Env} {s : State} {m : MethodId} {args : Array Value} {below : List Frame} {meth : Method} {c : Code} {E : GE} {res : (Unit × GS)} (hc : GM E p s m args meth c RX9 cX9_goTo 5 none) : ∀ (S : GS) (a1 : Int32) (a2 : Int32) (H : Heap) (locs : List Loc) (ls : Array Slot), lv_has ls 5 [(0, gR E 35), (1, .int a1), (2, .int a2)] → GX E S H locs → fX9_goTo S a1 a2 = some res → W p l e rmX9_goTo s m args below meth c H locs 0 0 (gZ E below args s none res.2) (F0 m 0 ls []) := by
  obtain ⟨hx, hb, -, -, -, hown, hts, -, -⟩ := id hc
  intro S a1 a2 H locs ls hl hG h
  unfold fX9_goTo at h
  refine lv_aload_n hx hb dX9_goTo_0 rfl (lv_at hl 0 rfl) ?_
  refine lv_iload_n hx hb dX9_goTo_1 rfl (lv_at hl 1 rfl) ?_
  refine g_putI hc hG 35 fpX9_81 rfl rfl rfl rfl dX9_goTo_2 (fun S1 H locs eS1 hG => ?_)
  have h := g_let eS1 h
  refine lv_aload_n hx hb dX9_goTo_5 rfl (lv_at hl 0 rfl) ?_
  refine lv_iload_n hx hb dX9_goTo_6 rfl (lv_at hl 2 rfl) ?_
  refine g_putI hc hG 35 fpX9_74 rfl rfl rfl rfl dX9_goTo_7 (fun S2 H locs eS2 hG => ?_)
  have h := g_let eS2 h
  refine lv_aload_n hx hb dX9_goTo_10 rfl (lv_at hl 0 rfl) ?_
  refine lv_iconst (v := (0 : Int32)) hx hb dX9_goTo_11 (by decide) ?_
  refine g_putI hc hG 35 fpX9_84 rfl rfl rfl rfl dX9_goTo_12 (fun S3 H locs eS3 hG => ?_)
  have h := g_let eS3 h
  refine lv_aload_n hx hb dX9_goTo_15 rfl (lv_at hl 0 rfl) ?_
  refine g_getR hc hG 35 7 flX9_29 rfl rfl rfl dX9_goTo_16 ?_
  refine g_getI hc hG 7 flX9_52 rfl rfl dX9_goTo_19 ?_
  refine lv_iconst (v := (1 : Int32)) hx hb dX9_goTo_22 (by decide) ?_
  refine lv_isub hx hb dX9_goTo_23 ?_
  refine lv_topi (fun v4 ev4 => ?_)
  have h := g_let ev4 h
  refine lv_istore_n (lv' := [(3, .int v4), (0, gR E 35), (1, .int a1), (2, .int a2)]) hx hb dX9_goTo_24 rfl hl (by decide) rfl (fun ls hl => ?_)
  exact wX9_goTo_25 hc FU S3 v4 _ _ _ (lv_sub hl [1, 0] rfl) hG h
theorem mX9_goTo (l : Launch) (E : GE) {S : GS} {a1 : Int32} {a2 : Int32} {res : (Unit × GS)} (h : fX9_goTo S a1 a2 = some res) : gMet l E yX9_goTo cX9_goTo 5 none rmX9_goTo [gR E 35, .int a1, .int a2] S none res.2 :=
  g_met (by decide) (Nat.le_of_ble_eq_true rfl) rfl fun p e s m below meth c H ls hc hG hl => wX9_goTo_0 hc S a1 a2 H [] ls hl hG h
abbrev rmX9_isSpokenOf : Room := { frames := 1, cells := 0, slots := 0, locals := 23 }
def fX9_isSpokenOf_11 : Nat → GS → Int32 → Int32 → Int32 → Int32 → Option Int32
  | 0, _, _, _, _, _ => none
  | n + 1, S, a1, a2, a3, a4 => (if gib a1 32 = true then (if (S.1 45 a1.toNatClampNeg) ≤ a4 then (some (0 : Int32)) else (if gib a4 120 = true then gbv (fX9_speaks S (S.1 43 a4.toNatClampNeg) a2 a3) fun r5 => (if r5 = 0 then glet (a4 + (1 : Int32)) fun v7 => (fX9_isSpokenOf_11 n S a1 a2 a3 v7) else (some (1 : Int32))) else none)) else none)
set_option maxRecDepth 100000 in
set_option maxHeartbeats 4000000 in
theorem wX9_isSpokenOf_11 {p : Program} {l : Launch} {e : Env} {s : State} {m : MethodId} {args : Array Value} {below : List Frame} {meth : Method} {c : Code} {E : GE} {res : Int32} (hc : GM E p s m args meth c RX9 cX9_isSpokenOf 5 (some .boolean)) : ∀ (n : Nat), ∀ (S : GS) (a1 : Int32) (a2 : Int32) (a3 : Int32) (a4 : Int32) (H : Heap) (locs : List Loc) (ls : Array Slot), lv_has ls 5 [(0, gR E 35), (1, .int a1), (2, .int a2), (3, .int a3), (4, .int a4)] → GX E S H locs → fX9_isSpokenOf_11 n S a1 a2 a3 a4 = some res → W p l e rmX9_isSpokenOf s m args below meth c H locs 0 0 (gZ E below args s (some (.int res)) S) (F0 m 11 ls []) := by
  obtain ⟨hx, hb, -, -, -, hown, hts, -, -⟩ := id hc
  intro n
  induction n with
  | zero => intro S a1 a2 a3 a4 H locs ls hl hG h; cases h
  | succ n ih =>
    intro S a1 a2 a3 a4 H locs ls hl hG h
    rw [fX9_isSpokenOf_11] at h
    refine lv_iload hx hb dX9_isSpokenOf_11 (lv_at hl 4 rfl) ?_
    refine lv_aload_n hx hb dX9_isSpokenOf_13 rfl (lv_at hl 0 rfl) ?_
    refine g_getR hc hG 35 36 flX9_40 rfl rfl rfl dX9_isSpokenOf_14 ?_
    refine g_getR hc hG 36 45 flX9_126 rfl rfl rfl dX9_isSpokenOf_17 ?_
    refine lv_iload_n hx hb dX9_isSpokenOf_20 rfl (lv_at hl 1 rfl) ?_
    obtain ⟨hi1, h⟩ := g_if h
    refine g_iald hc hG 45 32 (a1.toNatClampNeg) rfl rfl hi1 rfl dX9_isSpokenOf_21 ?_
    refine lv_icmp_ge (tgt := 52) hx hb dX9_isSpokenOf_22 (by decide) (fun c2 => ?_) (fun c2 => ?_)
    · have h := g_pos c2 h
      refine lv_iconst (v := (0 : Int32)) hx hb dX9_isSpokenOf_52 (by decide) ?_
      exact g_zretp hc hG (Or.inl rfl) dX9_isSpokenOf_53 h
    · have h := g_neg c2 h
      refine lv_aload_n hx hb dX9_isSpokenOf_25 rfl (lv_at hl 0 rfl) ?_
      refine lv_aload_n hx hb dX9_isSpokenOf_26 rfl (lv_at hl 0 rfl) ?_
      refine g_getR hc hG 35 36 flX9_40 rfl rfl rfl dX9_isSpokenOf_27 ?_
      refine g_getR hc hG 36 43 flX9_129 rfl rfl rfl dX9_isSpokenOf_30 ?_
      refine lv_iload hx hb dX9_isSpokenOf_33 (lv_at hl 4 rfl) ?_
      obtain ⟨hi3, h⟩ := g_if h
      refine g_iald hc hG 43 120 (a4.toNatClampNeg) rfl rfl hi3 rfl dX9_isSpokenOf_35 ?_
      refine lv_iload_n hx hb dX9_isSpokenOf_36 rfl (lv_at hl 2 rfl) ?_
      refine lv_iload_n hx hb dX9_isSpokenOf_37 rfl (lv_at hl 3 rfl) ?_
      obtain ⟨r5, hm4, h⟩ := g_bv h
      refine g_callVi (As := [.int (S.1 43 a4.toNatClampNeg), .int a2, .int a3]) hc hG (mX9_speaks l E hm4) mlX9_137 mcX9_speaks miX9_speaks rfl rfl rfl rfl hl.1 rfl rfl ⟨by decide, by decide⟩ (Nat.le_of_ble_eq_true rfl) ⟨by decide, by decide⟩ dX9_isSpokenOf_38 rfl (fun H locs hG => ?_)
      refine lv_if_eq (tgt := 46) hx hb dX9_isSpokenOf_41 (by decide) (fun c6 => ?_) (fun c6 => ?_)
      · have h := g_pos c6 h
        obtain ⟨v7, ev7⟩ : ∃ y : Int32, y = (a4 + (1 : Int32)) := ⟨_, rfl⟩
        have h := g_let ev7 h
        refine lv_iinc (v := v7) (lv' := [(4, .int v7), (0, gR E 35), (1, .int a1), (2, .int a2), (3, .int a3)]) hx hb dX9_isSpokenOf_46 hl (k := 4) rfl (by rw [ev7]; rfl) (by decide) rfl (fun ls hl => ?_)
        refine lv_goto (tgt := 11) hx hb dX9_isSpokenOf_49 (by decide) ?_
        exact ih S a1 a2 a3 v7 _ _ _ (lv_sub hl [1, 2, 3, 4, 0] rfl) hG h
      · have h := g_neg c6 h
        refine lv_iconst (v := (1 : Int32)) hx hb dX9_isSpokenOf_44 (by decide) ?_
        exact g_zretp hc hG (Or.inr rfl) dX9_isSpokenOf_45 h
def fX9_isSpokenOf (S : GS) (a1 : Int32) (a2 : Int32) (a3 : Int32) : Option Int32 := (if gib a1 32 = true then glet (S.1 44 a1.toNatClampNeg) fun v2 => (fX9_isSpokenOf_11 FU S a1 a2 a3 v2) else none)
set_option maxRecDepth 100000 in
set_option maxHeartbeats 4000000 in
theorem wX9_isSpokenOf_0 {p : Program} {l : Launch} {e : Env} {s : State} {m : MethodId} {args : Array Value} {below : List Frame} {meth : Method} {c : Code} {E : GE} {res : Int32} (hc : GM E p s m args meth c RX9 cX9_isSpokenOf 5 (some .boolean)) : ∀ (S : GS) (a1 : Int32) (a2 : Int32) (a3 : Int32) (H : Heap) (locs : List Loc) (ls : Array Slot), lv_has ls 5 [(0, gR E 35), (1, .int a1), (2, .int a2), (3, .int a3)] → GX E S H locs → fX9_isSpokenOf S a1 a2 a3 = some res → W p l e rmX9_isSpokenOf s m args below meth c H locs 0 0 (gZ E below args s (some (.int res)) S) (F0 m 0 ls []) := by
  obtain ⟨hx, hb, -, -, -, hown, hts, -, -⟩ := id hc
  intro S a1 a2 a3 H locs ls hl hG h
  unfold fX9_isSpokenOf at h
  refine lv_aload_n hx hb dX9_isSpokenOf_0 rfl (lv_at hl 0 rfl) ?_
  refine g_getR hc hG 35 36 flX9_40 rfl rfl rfl dX9_isSpokenOf_1 ?_
  refine g_getR hc hG 36 44 flX9_123 rfl rfl rfl dX9_isSpokenOf_4 ?_
  refine lv_iload_n hx hb dX9_isSpokenOf_7 rfl (lv_at hl 1 rfl) ?_
  obtain ⟨hi1, h⟩ := g_if h
  refine g_iald hc hG 44 32 (a1.toNatClampNeg) rfl rfl hi1 rfl dX9_isSpokenOf_8 ?_
  refine lv_topi (fun v2 ev2 => ?_)
  have h := g_let ev2 h
  refine lv_istore (lv' := [(4, .int v2), (0, gR E 35), (1, .int a1), (2, .int a2), (3, .int a3)]) hx hb dX9_isSpokenOf_9 hl (by decide) rfl (fun ls hl => ?_)
  exact wX9_isSpokenOf_11 hc FU S a1 a2 a3 v2 _ _ _ (lv_sub hl [1, 2, 3, 4, 0] rfl) hG h
theorem mX9_isSpokenOf (l : Launch) (E : GE) {S : GS} {a1 : Int32} {a2 : Int32} {a3 : Int32} {res : Int32} (h : fX9_isSpokenOf S a1 a2 a3 = some res) : gMet l E yX9_isSpokenOf cX9_isSpokenOf 5 (some .boolean) rmX9_isSpokenOf [gR E 35, .int a1, .int a2, .int a3] S (some (.int res)) S :=
  g_met (by decide) (Nat.le_of_ble_eq_true rfl) rfl fun p e s m below meth c H ls hc hG hl => wX9_isSpokenOf_0 hc S a1 a2 a3 H [] ls hl hG h
abbrev rmX9_isTaken : Room := { frames := 0, cells := 0, slots := 0, locals := 0 }
def fX9_isTaken_65 (k2 : GS → Int32 → Int32 → Int32 → Option Int32) (S : GS) (t0 : Int32) (a1 : Int32) (a2 : Int32) (a3 : Int32) (a4 : Int32) : Option Int32 := (if t0 = 0 then glet (a3 + (1 : Int32)) fun v2 => (k2 S a1 a2 v2) else (if gib a4 120 = true then (if (S.1 35 5) < (S.1 20 a4.toNatClampNeg) then glet (a3 + (1 : Int32)) fun v5 => (k2 S a1 a2 v5) else (if gib a1 32 = true then (if (S.1 20 a4.toNatClampNeg) < (S.1 9 a1.toNatClampNeg) then glet (a3 + (1 : Int32)) fun v8 => (k2 S a1 a2 v8) else (some (1 : Int32))) else none)) else none))
set_option maxRecDepth 100000 in
set_option maxHeartbeats 4000000 in
theorem wX9_isTaken_65 {p : Program} {l : Launch} {e : Env} {s : State} {m : MethodId} {args : Array Value} {below : List Frame} {meth : Method} {c : Code} {E : GE} {res : Int32} {k2 : GS → Int32 → Int32 → Int32 → Option Int32} (hc : GM E p s m args meth c RX9 cX9_isTaken 6 (some .boolean)) (hk2 : ∀ (S : GS) (a1 : Int32) (a2 : Int32) (a3 : Int32) (H : Heap) (locs : List Loc) (ls : Array Slot), lv_has ls 6 [(0, gR E 35), (1, .int a1), (2, .int a2), (3, .int a3)] → GX E S H locs → k2 S a1 a2 a3 = some res → W p l e rmX9_isTaken s m args below meth c H locs 0 0 (gZ E below args s (some (.int res)) S) (F0 m 2 ls [])) : ∀ (S : GS) (t0 : Int32) (a1 : Int32) (a2 : Int32) (a3 : Int32) (a4 : Int32) (H : Heap) (locs : List Loc) (ls : Array Slot), lv_has ls 6 [(0, gR E 35), (1, .int a1), (2, .int a2), (3, .int a3), (4, .int a4)] → GX E S H locs → fX9_isTaken_65 k2 S t0 a1 a2 a3 a4 = some res → W p l e rmX9_isTaken s m args below meth c H locs 0 0 (gZ E below args s (some (.int res)) S) (F0 m 65 ls [.int t0]) := by
  obtain ⟨hx, hb, -, -, -, hown, hts, -, -⟩ := id hc
  intro S t0 a1 a2 a3 a4 H locs ls hl hG h
  unfold fX9_isTaken_65 at h
  refine lv_istore (lv' := [(5, .int t0), (0, gR E 35), (1, .int a1), (2, .int a2), (3, .int a3), (4, .int a4)]) hx hb dX9_isTaken_65 hl (by decide) rfl (fun ls hl => ?_)
  refine lv_iload hx hb dX9_isTaken_67 (lv_at hl 0 rfl) ?_
  refine lv_if_eq (tgt := 113) hx hb dX9_isTaken_69 (by decide) (fun c1 => ?_) (fun c1 => ?_)
  · have h := g_pos c1 h
    obtain ⟨v2, ev2⟩ : ∃ y : Int32, y = (a3 + (1 : Int32)) := ⟨_, rfl⟩
    have h := g_let ev2 h
    refine lv_iinc (v := v2) (lv' := [(3, .int v2), (5, .int t0), (0, gR E 35), (1, .int a1), (2, .int a2), (4, .int a4)]) hx hb dX9_isTaken_113 hl (k := 4) rfl (by rw [ev2]; rfl) (by decide) rfl (fun ls hl => ?_)
    refine lv_goto (tgt := 2) hx hb dX9_isTaken_116 (by decide) ?_
    exact hk2 S a1 a2 v2 _ _ _ (lv_sub hl [2, 3, 4, 0] rfl) hG h
  · have h := g_neg c1 h
    refine lv_aload_n hx hb dX9_isTaken_72 rfl (lv_at hl 1 rfl) ?_
    refine g_getR hc hG 35 14 flX9_39 rfl rfl rfl dX9_isTaken_73 ?_
    refine g_getR hc hG 14 20 flX9_160 rfl rfl rfl dX9_isTaken_76 ?_
    refine lv_iload hx hb dX9_isTaken_79 (lv_at hl 5 rfl) ?_
    obtain ⟨hi3, h⟩ := g_if h
    refine g_iald hc hG 20 120 (a4.toNatClampNeg) rfl rfl hi3 rfl dX9_isTaken_81 ?_
    refine lv_aload_n hx hb dX9_isTaken_82 rfl (lv_at hl 1 rfl) ?_
    refine g_getI hc hG 35 flX9_81 rfl rfl dX9_isTaken_83 ?_
    refine lv_icmp_gt (tgt := 113) hx hb dX9_isTaken_86 (by decide) (fun c4 => ?_) (fun c4 => ?_)
    · have h := g_pos c4 h
      obtain ⟨v5, ev5⟩ : ∃ y : Int32, y = (a3 + (1 : Int32)) := ⟨_, rfl⟩
      have h := g_let ev5 h
      refine lv_iinc (v := v5) (lv' := [(3, .int v5), (5, .int t0), (0, gR E 35), (1, .int a1), (2, .int a2), (4, .int a4)]) hx hb dX9_isTaken_113 hl (k := 4) rfl (by rw [ev5]; rfl) (by decide) rfl (fun ls hl => ?_)
      refine lv_goto (tgt := 2) hx hb dX9_isTaken_116 (by decide) ?_
      exact hk2 S a1 a2 v5 _ _ _ (lv_sub hl [2, 3, 4, 0] rfl) hG h
    · have h := g_neg c4 h
      refine lv_aload_n hx hb dX9_isTaken_89 rfl (lv_at hl 1 rfl) ?_
      refine g_getR hc hG 35 14 flX9_39 rfl rfl rfl dX9_isTaken_90 ?_
      refine g_getR hc hG 14 20 flX9_160 rfl rfl rfl dX9_isTaken_93 ?_
      refine lv_iload hx hb dX9_isTaken_96 (lv_at hl 5 rfl) ?_
      refine g_iald hc hG 20 120 (a4.toNatClampNeg) rfl rfl hi3 rfl dX9_isTaken_98 ?_
      refine lv_aload_n hx hb dX9_isTaken_99 rfl (lv_at hl 1 rfl) ?_
      refine g_getR hc hG 35 7 flX9_29 rfl rfl rfl dX9_isTaken_100 ?_
      refine g_getR hc hG 7 9 flX9_68 rfl rfl rfl dX9_isTaken_103 ?_
      refine lv_iload_n hx hb dX9_isTaken_106 rfl (lv_at hl 2 rfl) ?_
      obtain ⟨hi6, h⟩ := g_if h
      refine g_iald hc hG 9 32 (a1.toNatClampNeg) rfl rfl hi6 rfl dX9_isTaken_107 ?_
      refine lv_icmp_lt (tgt := 113) hx hb dX9_isTaken_108 (by decide) (fun c7 => ?_) (fun c7 => ?_)
      · have h := g_pos c7 h
        obtain ⟨v8, ev8⟩ : ∃ y : Int32, y = (a3 + (1 : Int32)) := ⟨_, rfl⟩
        have h := g_let ev8 h
        refine lv_iinc (v := v8) (lv' := [(3, .int v8), (5, .int t0), (0, gR E 35), (1, .int a1), (2, .int a2), (4, .int a4)]) hx hb dX9_isTaken_113 hl (k := 4) rfl (by rw [ev8]; rfl) (by decide) rfl (fun ls hl => ?_)
        refine lv_goto (tgt := 2) hx hb dX9_isTaken_116 (by decide) ?_
        exact hk2 S a1 a2 v8 _ _ _ (lv_sub hl [2, 3, 4, 0] rfl) hG h
      · have h := g_neg c7 h
        refine lv_iconst (v := (1 : Int32)) hx hb dX9_isTaken_111 (by decide) ?_
        exact g_zretp hc hG (Or.inr rfl) dX9_isTaken_112 h
def fX9_isTaken_64 (k2 : GS → Int32 → Int32 → Int32 → Option Int32) (S : GS) (a1 : Int32) (a2 : Int32) (a3 : Int32) (a4 : Int32) : Option Int32 := (fX9_isTaken_65 k2 S (0 : Int32) a1 a2 a3 a4)
set_option maxRecDepth 100000 in
set_option maxHeartbeats 4000000 in
theorem wX9_isTaken_64 {p : Program} {l : Launch} {e : Env} {s : State} {m : MethodId} {args : Array Value} {below : List Frame} {meth : Method} {c : Code} {E : GE} {res : Int32} {k2 : GS → Int32 → Int32 → Int32 → Option Int32} (hc : GM E p s m args meth c RX9 cX9_isTaken 6 (some .boolean)) (hk2 : ∀ (S : GS) (a1 : Int32) (a2 : Int32) (a3 : Int32) (H : Heap) (locs : List Loc) (ls : Array Slot), lv_has ls 6 [(0, gR E 35), (1, .int a1), (2, .int a2), (3, .int a3)] → GX E S H locs → k2 S a1 a2 a3 = some res → W p l e rmX9_isTaken s m args below meth c H locs 0 0 (gZ E below args s (some (.int res)) S) (F0 m 2 ls [])) : ∀ (S : GS) (a1 : Int32) (a2 : Int32) (a3 : Int32) (a4 : Int32) (H : Heap) (locs : List Loc) (ls : Array Slot), lv_has ls 6 [(0, gR E 35), (1, .int a1), (2, .int a2), (3, .int a3), (4, .int a4)] → GX E S H locs → fX9_isTaken_64 k2 S a1 a2 a3 a4 = some res → W p l e rmX9_isTaken s m args below meth c H locs 0 0 (gZ E below args s (some (.int res)) S) (F0 m 64 ls []) := by
  obtain ⟨hx, hb, -, -, -, hown, hts, -, -⟩ := id hc
  intro S a1 a2 a3 a4 H locs ls hl hG h
  unfold fX9_isTaken_64 at h
  refine lv_iconst (v := (0 : Int32)) hx hb dX9_isTaken_64 (by decide) ?_
  exact wX9_isTaken_65 hc hk2 S (0 : Int32) a1 a2 a3 a4 _ _ _ (lv_sub hl [0, 1, 2, 3, 4] rfl) hG h
def fX9_isTaken_2 : Nat → GS → Int32 → Int32 → Int32 → Option Int32
  | 0, _, _, _, _ => none
  | n + 1, S, a1, a2, a3 => (if (S.1 36 14) ≤ a3 then (some (0 : Int32)) else (if gib a3 120 = true then glet (S.1 46 a3.toNatClampNeg) fun v3 => (if gib v3 120 = true then (if (S.1 15 v3.toNatClampNeg) = (5 : Int32) then (if gib (S.1 19 v3.toNatClampNeg) 12 = true then (if (S.1 37 ((S.1 19 v3.toNatClampNeg)).toNatClampNeg) = a2 then (fX9_isTaken_65 (fX9_isTaken_2 n) S (1 : Int32) a1 a2 a3 v3) else (fX9_isTaken_64 (fX9_isTaken_2 n) S a1 a2 a3 v3)) else none) else (fX9_isTaken_64 (fX9_isTaken_2 n) S a1 a2 a3 v3)) else none) else none))
set_option maxRecDepth 100000 in
set_option maxHeartbeats 4000000 in
theorem wX9_isTaken_2 {p : Program} {l : Launch} {e : Env} {s : State} {m : MethodId} {args : Array Value} {below : List Frame} {meth : Method} {c : Code} {E : GE} {res : Int32} (hc : GM E p s m args meth c RX9 cX9_isTaken 6 (some .boolean)) : ∀ (n : Nat), ∀ (S : GS) (a1 : Int32) (a2 : Int32) (a3 : Int32) (H : Heap) (locs : List Loc) (ls : Array Slot), lv_has ls 6 [(0, gR E 35), (1, .int a1), (2, .int a2), (3, .int a3)] → GX E S H locs → fX9_isTaken_2 n S a1 a2 a3 = some res → W p l e rmX9_isTaken s m args below meth c H locs 0 0 (gZ E below args s (some (.int res)) S) (F0 m 2 ls []) := by
  obtain ⟨hx, hb, -, -, -, hown, hts, -, -⟩ := id hc
  intro n
  induction n with
  | zero => intro S a1 a2 a3 H locs ls hl hG h; cases h
  | succ n ih =>
    intro S a1 a2 a3 H locs ls hl hG h
    rw [fX9_isTaken_2] at h
    refine lv_iload_n hx hb dX9_isTaken_2 rfl (lv_at hl 3 rfl) ?_
    refine lv_aload_n hx hb dX9_isTaken_3 rfl (lv_at hl 0 rfl) ?_
    refine g_getR hc hG 35 36 flX9_40 rfl rfl rfl dX9_isTaken_4 ?_
    refine g_getI hc hG 36 flX9_202 rfl rfl dX9_isTaken_7 ?_
    refine lv_icmp_ge (tgt := 119) hx hb dX9_isTaken_10 (by decide) (fun c1 => ?_) (fun c1 => ?_)
    · have h := g_pos c1 h
      refine lv_iconst (v := (0 : Int32)) hx hb dX9_isTaken_119 (by decide) ?_
      exact g_zretp hc hG (Or.inl rfl) dX9_isTaken_120 h
    · have h := g_neg c1 h
      refine lv_aload_n hx hb dX9_isTaken_13 rfl (lv_at hl 0 rfl) ?_
      refine g_getR hc hG 35 36 flX9_40 rfl rfl rfl dX9_isTaken_14 ?_
      refine g_getR hc hG 36 46 flX9_205 rfl rfl rfl dX9_isTaken_17 ?_
      refine lv_iload_n hx hb dX9_isTaken_20 rfl (lv_at hl 3 rfl) ?_
      obtain ⟨hi2, h⟩ := g_if h
      refine g_iald hc hG 46 120 (a3.toNatClampNeg) rfl rfl hi2 rfl dX9_isTaken_21 ?_
      refine lv_topi (fun v3 ev3 => ?_)
      have h := g_let ev3 h
      refine lv_istore (lv' := [(4, .int v3), (0, gR E 35), (1, .int a1), (2, .int a2), (3, .int a3)]) hx hb dX9_isTaken_22 hl (by decide) rfl (fun ls hl => ?_)
      refine lv_aload_n hx hb dX9_isTaken_24 rfl (lv_at hl 1 rfl) ?_
      refine g_getR hc hG 35 14 flX9_39 rfl rfl rfl dX9_isTaken_25 ?_
      refine g_getR hc hG 14 15 flX9_132 rfl rfl rfl dX9_isTaken_28 ?_
      refine lv_iload hx hb dX9_isTaken_31 (lv_at hl 0 rfl) ?_
      obtain ⟨hi4, h⟩ := g_if h
      refine g_iald hc hG 15 120 (v3.toNatClampNeg) rfl rfl hi4 rfl dX9_isTaken_33 ?_
      refine lv_iconst (v := (5 : Int32)) hx hb dX9_isTaken_34 (by decide) ?_
      refine lv_icmp_ne (tgt := 64) hx hb dX9_isTaken_35 (by decide) (fun c5 => ?_) (fun c5 => ?_)
      · have h := g_neg c5 h
        exact wX9_isTaken_64 hc ih S a1 a2 a3 v3 _ _ _ (lv_sub hl [1, 2, 3, 4, 0] rfl) hG h
      · have h := g_pos c5 h
        refine lv_aload_n hx hb dX9_isTaken_38 rfl (lv_at hl 1 rfl) ?_
        refine g_getR hc hG 35 36 flX9_40 rfl rfl rfl dX9_isTaken_39 ?_
        refine g_getR hc hG 36 37 flX9_154 rfl rfl rfl dX9_isTaken_42 ?_
        refine lv_aload_n hx hb dX9_isTaken_45 rfl (lv_at hl 1 rfl) ?_
        refine g_getR hc hG 35 14 flX9_39 rfl rfl rfl dX9_isTaken_46 ?_
        refine g_getR hc hG 14 19 flX9_157 rfl rfl rfl dX9_isTaken_49 ?_
        refine lv_iload hx hb dX9_isTaken_52 (lv_at hl 0 rfl) ?_
        refine g_iald hc hG 19 120 (v3.toNatClampNeg) rfl rfl hi4 rfl dX9_isTaken_54 ?_
        obtain ⟨hi6, h⟩ := g_if h
        refine g_iald hc hG 37 12 (((S.1 19 v3.toNatClampNeg)).toNatClampNeg) rfl rfl hi6 rfl dX9_isTaken_55 ?_
        refine lv_iload_n hx hb dX9_isTaken_56 rfl (lv_at hl 3 rfl) ?_
        refine lv_icmp_ne (tgt := 64) hx hb dX9_isTaken_57 (by decide) (fun c7 => ?_) (fun c7 => ?_)
        · have h := g_neg c7 h
          exact wX9_isTaken_64 hc ih S a1 a2 a3 v3 _ _ _ (lv_sub hl [1, 2, 3, 4, 0] rfl) hG h
        · have h := g_pos c7 h
          refine lv_iconst (v := (1 : Int32)) hx hb dX9_isTaken_60 (by decide) ?_
          refine lv_goto (tgt := 65) hx hb dX9_isTaken_61 (by decide) ?_
          exact wX9_isTaken_65 hc ih S (1 : Int32) a1 a2 a3 v3 _ _ _ (lv_sub hl [1, 2, 3, 4, 0] rfl) hG h
def fX9_isTaken (S : GS) (a1 : Int32) (a2 : Int32) : Option Int32 := glet (0 : Int32) fun v1 => (fX9_isTaken_2 FU S a1 a2 v1)
set_option maxRecDepth 100000 in
set_option maxHeartbeats 4000000 in
theorem wX9_isTaken_0 {p : Program} {l : Launch} {e : Env} {s : State} {m : MethodId} {args : Array Value} {below : List Frame} {meth : Method} {c : Code} {E : GE} {res : Int32} (hc : GM E p s m args meth c RX9 cX9_isTaken 6 (some .boolean)) : ∀ (S : GS) (a1 : Int32) (a2 : Int32) (H : Heap) (locs : List Loc) (ls : Array Slot), lv_has ls 6 [(0, gR E 35), (1, .int a1), (2, .int a2)] → GX E S H locs → fX9_isTaken S a1 a2 = some res → W p l e rmX9_isTaken s m args below meth c H locs 0 0 (gZ E below args s (some (.int res)) S) (F0 m 0 ls []) := by
  obtain ⟨hx, hb, -, -, -, hown, hts, -, -⟩ := id hc
  intro S a1 a2 H locs ls hl hG h
  unfold fX9_isTaken at h
  refine lv_iconst (v := (0 : Int32)) hx hb dX9_isTaken_0 (by decide) ?_
  refine lv_topi (fun v1 ev1 => ?_)
  have h := g_let ev1 h
  refine lv_istore_n (lv' := [(3, .int v1), (0, gR E 35), (1, .int a1), (2, .int a2)]) hx hb dX9_isTaken_1 rfl hl (by decide) rfl (fun ls hl => ?_)
  exact wX9_isTaken_2 hc FU S a1 a2 v1 _ _ _ (lv_sub hl [1, 2, 3, 0] rfl) hG h
theorem mX9_isTaken (l : Launch) (E : GE) {S : GS} {a1 : Int32} {a2 : Int32} {res : Int32} (h : fX9_isTaken S a1 a2 = some res) : gMet l E yX9_isTaken cX9_isTaken 6 (some .boolean) rmX9_isTaken [gR E 35, .int a1, .int a2] S (some (.int res)) S :=
  g_met (by decide) (Nat.le_of_ble_eq_true rfl) rfl fun p e s m below meth c H ls hc hG hl => wX9_isTaken_0 hc S a1 a2 H [] ls hl hG h
abbrev rmX9_nameSides : Room := { frames := 0, cells := 0, slots := 0, locals := 0 }
def fX9_nameSides_89 (S : GS) (t2 : Int64) (a1 : Int32) : Option (Unit × GS) := glet (gsl S 50 (3) t2) fun S1 => (if gib a1 32 = true then glet (gsl S1 50 (4) (((S1.1 10 a1.toNatClampNeg)).toInt64)) fun S3 => (some ((), S3)) else none)
set_option maxRecDepth 100000 in
set_option maxHeartbeats 4000000 in
theorem wX9_nameSides_89 {p : Program} {l : Launch} {e : Env} {s : State} {m : MethodId} {args : Array Value} {below : List Frame} {meth : Method} {c : Code} {E : GE} {res : (Unit × GS)} (hc : GM E p s m args meth c RX9 cX9_nameSides 4 none) : ∀ (S : GS) (t2 : Int64) (a1 : Int32) (H : Heap) (locs : List Loc) (ls : Array Slot), lv_has ls 4 [(0, gR E 35), (1, .int a1)] → GX E S H locs → fX9_nameSides_89 S t2 a1 = some res → W p l e rmX9_nameSides s m args below meth c H locs 0 0 (gZ E below args s none res.2) (F0 m 89 ls [.long t2, .int (3 : Int32), gR E 50]) := by
  obtain ⟨hx, hb, -, -, -, hown, hts, -, -⟩ := id hc
  intro S t2 a1 H locs ls hl hG h
  unfold fX9_nameSides_89 at h
  refine g_last hc hG 50 8 (3) rfl rfl (by decide) (by decide) dX9_nameSides_89 (fun S1 H locs eS1 hG => ?_)
  have h := g_let eS1 h
  refine lv_aload_n hx hb dX9_nameSides_90 rfl (lv_at hl 0 rfl) ?_
  refine g_getR hc hG 35 50 flX9_18 rfl rfl rfl dX9_nameSides_91 ?_
  refine lv_iconst (v := (4 : Int32)) hx hb dX9_nameSides_94 (by decide) ?_
  refine lv_aload_n hx hb dX9_nameSides_95 rfl (lv_at hl 0 rfl) ?_
  refine g_getR hc hG 35 7 flX9_29 rfl rfl rfl dX9_nameSides_96 ?_
  refine g_getR hc hG 7 10 flX9_151 rfl rfl rfl dX9_nameSides_99 ?_
  refine lv_iload_n hx hb dX9_nameSides_102 rfl (lv_at hl 1 rfl) ?_
  obtain ⟨hi2, h⟩ := g_if h
  refine g_iald hc hG 10 32 (a1.toNatClampNeg) rfl rfl hi2 rfl dX9_nameSides_103 ?_
  refine lv_i2l (v := (((S1.1 10 a1.toNatClampNeg)).toInt64)) hx hb dX9_nameSides_104 rfl ?_
  refine g_last hc hG 50 8 (4) rfl rfl (by decide) (by decide) dX9_nameSides_105 (fun S3 H locs eS3 hG => ?_)
  have h := g_let eS3 h
  exact g_vret hc hG dX9_nameSides_106 h
def fX9_nameSides_57 (S : GS) (t2 : Int64) (a1 : Int32) (a2 : Int32) (a3 : Int32) : Option (Unit × GS) := glet (gsl S 50 (2) t2) fun S1 => (if gib a3 6 = true then (if gib a2 6 = true then (if (S1.1 4 a3.toNatClampNeg) = (S1.1 4 a2.toNatClampNeg) then (fX9_nameSides_89 S1 (1 : Int64) a1) else (fX9_nameSides_89 S1 (0 : Int64) a1)) else none) else none)
set_option maxRecDepth 100000 in
set_option maxHeartbeats 4000000 in
theorem wX9_nameSides_57 {p : Program} {l : Launch} {e : Env} {s : State} {m : MethodId} {args : Array Value} {below : List Frame} {meth : Method} {c : Code} {E : GE} {res : (Unit × GS)} (hc : GM E p s m args meth c RX9 cX9_nameSides 4 none) : ∀ (S : GS) (t2 : Int64) (a1 : Int32) (a2 : Int32) (a3 : Int32) (H : Heap) (locs : List Loc) (ls : Array Slot), lv_has ls 4 [(0, gR E 35), (1, .int a1), (2, .int a2), (3, .int a3)] → GX E S H locs → fX9_nameSides_57 S t2 a1 a2 a3 = some res → W p l e rmX9_nameSides s m args below meth c H locs 0 0 (gZ E below args s none res.2) (F0 m 57 ls [.long t2, .int (2 : Int32), gR E 50]) := by
  obtain ⟨hx, hb, -, -, -, hown, hts, -, -⟩ := id hc
  intro S t2 a1 a2 a3 H locs ls hl hG h
  unfold fX9_nameSides_57 at h
  refine g_last hc hG 50 8 (2) rfl rfl (by decide) (by decide) dX9_nameSides_57 (fun S1 H locs eS1 hG => ?_)
  have h := g_let eS1 h
  refine lv_aload_n hx hb dX9_nameSides_58 rfl (lv_at hl 0 rfl) ?_
  refine g_getR hc hG 35 50 flX9_18 rfl rfl rfl dX9_nameSides_59 ?_
  refine lv_iconst (v := (3 : Int32)) hx hb dX9_nameSides_62 (by decide) ?_
  refine lv_aload_n hx hb dX9_nameSides_63 rfl (lv_at hl 0 rfl) ?_
  refine g_getR hc hG 35 2 flX9_25 rfl rfl rfl dX9_nameSides_64 ?_
  refine g_getR hc hG 2 4 flX9_199 rfl rfl rfl dX9_nameSides_67 ?_
  refine lv_iload_n hx hb dX9_nameSides_70 rfl (lv_at hl 3 rfl) ?_
  obtain ⟨hi2, h⟩ := g_if h
  refine g_iald hc hG 4 6 (a3.toNatClampNeg) rfl rfl hi2 rfl dX9_nameSides_71 ?_
  refine lv_aload_n hx hb dX9_nameSides_72 rfl (lv_at hl 0 rfl) ?_
  refine g_getR hc hG 35 2 flX9_25 rfl rfl rfl dX9_nameSides_73 ?_
  refine g_getR hc hG 2 4 flX9_199 rfl rfl rfl dX9_nameSides_76 ?_
  refine lv_iload_n hx hb dX9_nameSides_79 rfl (lv_at hl 2 rfl) ?_
  obtain ⟨hi3, h⟩ := g_if h
  refine g_iald hc hG 4 6 (a2.toNatClampNeg) rfl rfl hi3 rfl dX9_nameSides_80 ?_
  refine lv_icmp_ne (tgt := 88) hx hb dX9_nameSides_81 (by decide) (fun c4 => ?_) (fun c4 => ?_)
  · have h := g_neg c4 h
    refine lv_lconst (v := (0 : Int64)) hx hb dX9_nameSides_88 (by decide) ?_
    exact wX9_nameSides_89 hc S1 (0 : Int64) a1 _ _ _ (lv_sub hl [0, 1] rfl) hG h
  · have h := g_pos c4 h
    refine lv_lconst (v := (1 : Int64)) hx hb dX9_nameSides_84 (by decide) ?_
    refine lv_goto (tgt := 89) hx hb dX9_nameSides_85 (by decide) ?_
    exact wX9_nameSides_89 hc S1 (1 : Int64) a1 _ _ _ (lv_sub hl [0, 1] rfl) hG h
def fX9_nameSides (S : GS) (a1 : Int32) (a2 : Int32) : Option (Unit × GS) := (if gib a1 32 = true then glet (S.1 8 a1.toNatClampNeg) fun v2 => (if gib v2 6 = true then glet (gsl S 50 (0) (((S.1 3 v2.toNatClampNeg)).toInt64)) fun S4 => (if gib a2 6 = true then glet (gsl S4 50 (1) (((S4.1 3 a2.toNatClampNeg)).toInt64)) fun S6 => (if v2 = a2 then (fX9_nameSides_57 S6 (1 : Int64) a1 a2 v2) else (fX9_nameSides_57 S6 (0 : Int64) a1 a2 v2)) else none) else none) else none)
set_option maxRecDepth 100000 in
set_option maxHeartbeats 4000000 in
theorem wX9_nameSides_0 {p : Program} {l : Launch} {e : Env} {s : State} {m : MethodId} {args : Array Value} {below : List Frame} {meth : Method} {c : Code} {E : GE} {res : (Unit × GS)} (hc : GM E p s m args meth c RX9 cX9_nameSides 4 none) : ∀ (S : GS) (a1 : Int32) (a2 : Int32) (H : Heap) (locs : List Loc) (ls : Array Slot), lv_has ls 4 [(0, gR E 35), (1, .int a1), (2, .int a2)] → GX E S H locs → fX9_nameSides S a1 a2 = some res → W p l e rmX9_nameSides s m args below meth c H locs 0 0 (gZ E below args s none res.2) (F0 m 0 ls []) := by
  obtain ⟨hx, hb, -, -, -, hown, hts, -, -⟩ := id hc
  intro S a1 a2 H locs ls hl hG h
  unfold fX9_nameSides at h
  refine lv_aload_n hx hb dX9_nameSides_0 rfl (lv_at hl 0 rfl) ?_
  refine g_getR hc hG 35 7 flX9_29 rfl rfl rfl dX9_nameSides_1 ?_
  refine g_getR hc hG 7 8 flX9_110 rfl rfl rfl dX9_nameSides_4 ?_
  refine lv_iload_n hx hb dX9_nameSides_7 rfl (lv_at hl 1 rfl) ?_
  obtain ⟨hi1, h⟩ := g_if h
  refine g_iald hc hG 8 32 (a1.toNatClampNeg) rfl rfl hi1 rfl dX9_nameSides_8 ?_
  refine lv_topi (fun v2 ev2 => ?_)
  have h := g_let ev2 h
  refine lv_istore_n (lv' := [(3, .int v2), (0, gR E 35), (1, .int a1), (2, .int a2)]) hx hb dX9_nameSides_9 rfl hl (by decide) rfl (fun ls hl => ?_)
  refine lv_aload_n hx hb dX9_nameSides_10 rfl (lv_at hl 1 rfl) ?_
  refine g_getR hc hG 35 50 flX9_18 rfl rfl rfl dX9_nameSides_11 ?_
  refine lv_iconst (v := (0 : Int32)) hx hb dX9_nameSides_14 (by decide) ?_
  refine lv_aload_n hx hb dX9_nameSides_15 rfl (lv_at hl 1 rfl) ?_
  refine g_getR hc hG 35 2 flX9_25 rfl rfl rfl dX9_nameSides_16 ?_
  refine g_getR hc hG 2 3 flX9_194 rfl rfl rfl dX9_nameSides_19 ?_
  refine lv_iload_n hx hb dX9_nameSides_22 rfl (lv_at hl 0 rfl) ?_
  obtain ⟨hi3, h⟩ := g_if h
  refine g_iald hc hG 3 6 (v2.toNatClampNeg) rfl rfl hi3 rfl dX9_nameSides_23 ?_
  refine lv_i2l (v := (((S.1 3 v2.toNatClampNeg)).toInt64)) hx hb dX9_nameSides_24 rfl ?_
  refine g_last hc hG 50 8 (0) rfl rfl (by decide) (by decide) dX9_nameSides_25 (fun S4 H locs eS4 hG => ?_)
  have h := g_let eS4 h
  refine lv_aload_n hx hb dX9_nameSides_26 rfl (lv_at hl 1 rfl) ?_
  refine g_getR hc hG 35 50 flX9_18 rfl rfl rfl dX9_nameSides_27 ?_
  refine lv_iconst (v := (1 : Int32)) hx hb dX9_nameSides_30 (by decide) ?_
  refine lv_aload_n hx hb dX9_nameSides_31 rfl (lv_at hl 1 rfl) ?_
  refine g_getR hc hG 35 2 flX9_25 rfl rfl rfl dX9_nameSides_32 ?_
  refine g_getR hc hG 2 3 flX9_194 rfl rfl rfl dX9_nameSides_35 ?_
  refine lv_iload_n hx hb dX9_nameSides_38 rfl (lv_at hl 3 rfl) ?_
  obtain ⟨hi5, h⟩ := g_if h
  refine g_iald hc hG 3 6 (a2.toNatClampNeg) rfl rfl hi5 rfl dX9_nameSides_39 ?_
  refine lv_i2l (v := (((S4.1 3 a2.toNatClampNeg)).toInt64)) hx hb dX9_nameSides_40 rfl ?_
  refine g_last hc hG 50 8 (1) rfl rfl (by decide) (by decide) dX9_nameSides_41 (fun S6 H locs eS6 hG => ?_)
  have h := g_let eS6 h
  refine lv_aload_n hx hb dX9_nameSides_42 rfl (lv_at hl 1 rfl) ?_
  refine g_getR hc hG 35 50 flX9_18 rfl rfl rfl dX9_nameSides_43 ?_
  refine lv_iconst (v := (2 : Int32)) hx hb dX9_nameSides_46 (by decide) ?_
  refine lv_iload_n hx hb dX9_nameSides_47 rfl (lv_at hl 0 rfl) ?_
  refine lv_iload_n hx hb dX9_nameSides_48 rfl (lv_at hl 3 rfl) ?_
  refine lv_icmp_ne (tgt := 56) hx hb dX9_nameSides_49 (by decide) (fun c7 => ?_) (fun c7 => ?_)
  · have h := g_neg c7 h
    refine lv_lconst (v := (0 : Int64)) hx hb dX9_nameSides_56 (by decide) ?_
    exact wX9_nameSides_57 hc S6 (0 : Int64) a1 a2 v2 _ _ _ (lv_sub hl [1, 2, 3, 0] rfl) hG h
  · have h := g_pos c7 h
    refine lv_lconst (v := (1 : Int64)) hx hb dX9_nameSides_52 (by decide) ?_
    refine lv_goto (tgt := 57) hx hb dX9_nameSides_53 (by decide) ?_
    exact wX9_nameSides_57 hc S6 (1 : Int64) a1 a2 v2 _ _ _ (lv_sub hl [1, 2, 3, 0] rfl) hG h
theorem mX9_nameSides (l : Launch) (E : GE) {S : GS} {a1 : Int32} {a2 : Int32} {res : (Unit × GS)} (h : fX9_nameSides S a1 a2 = some res) : gMet l E yX9_nameSides cX9_nameSides 4 none rmX9_nameSides [gR E 35, .int a1, .int a2] S none res.2 :=
  g_met (by decide) (Nat.le_of_ble_eq_true rfl) rfl fun p e s m below meth c H ls hc hG hl => wX9_nameSides_0 hc S a1 a2 H [] ls hl hG h
abbrev rmX9_doubtsOf : Room := { frames := 1, cells := 0, slots := 0, locals := 21 }
def fX9_doubtsOf (S : GS) (a1 : Int32) (a2 : Int32) : Option Int32 := gbv (fX3_placeOf S a1 a2) fun r2 => (if gib r2 384 = true then gbv (fX9_alive S (S.1 41 r2.toNatClampNeg)) fun r5 => gbv (fJ6_bitCount_0f7a4 S r5) fun r7 => (some r7) else none)
set_option maxRecDepth 100000 in
set_option maxHeartbeats 4000000 in
theorem wX9_doubtsOf_0 {p : Program} {l : Launch} {e : Env} {s : State} {m : MethodId} {args : Array Value} {below : List Frame} {meth : Method} {c : Code} {E : GE} {res : Int32} (hc : GM E p s m args meth c RX9 cX9_doubtsOf 3 (some .int)) : ∀ (S : GS) (a1 : Int32) (a2 : Int32) (H : Heap) (locs : List Loc) (ls : Array Slot), lv_has ls 3 [(0, gR E 35), (1, .int a1), (2, .int a2)] → GX E S H locs → fX9_doubtsOf S a1 a2 = some res → W p l e rmX9_doubtsOf s m args below meth c H locs 0 0 (gZ E below args s (some (.int res)) S) (F0 m 0 ls []) := by
  obtain ⟨hx, hb, -, -, -, hown, hts, -, -⟩ := id hc
  intro S a1 a2 H locs ls hl hG h
  unfold fX9_doubtsOf at h
  refine lv_aload_n hx hb dX9_doubtsOf_0 rfl (lv_at hl 0 rfl) ?_
  refine lv_aload_n hx hb dX9_doubtsOf_1 rfl (lv_at hl 0 rfl) ?_
  refine g_getR hc hG 35 36 flX9_40 rfl rfl rfl dX9_doubtsOf_2 ?_
  refine g_getR hc hG 36 41 flX9_163 rfl rfl rfl dX9_doubtsOf_5 ?_
  refine lv_iload_n hx hb dX9_doubtsOf_8 rfl (lv_at hl 1 rfl) ?_
  refine lv_iload_n hx hb dX9_doubtsOf_9 rfl (lv_at hl 2 rfl) ?_
  obtain ⟨r2, hm1, h⟩ := g_bv h
  refine g_callSi (As := [.int a1, .int a2]) hc hG (mX3_placeOf l E hm1) mlX9_166 mcX3_placeOf msX3_placeOf rfl hl.1 rfl rfl ⟨by decide, by decide⟩ (Nat.le_of_ble_eq_true rfl) ⟨by decide, by decide⟩ dX9_doubtsOf_10 rfl (fun H locs hG => ?_)
  obtain ⟨hi3, h⟩ := g_if h
  refine g_iald hc hG 41 384 (r2.toNatClampNeg) rfl rfl hi3 rfl dX9_doubtsOf_13 ?_
  obtain ⟨r5, hm4, h⟩ := g_bv h
  refine g_callVi (As := [.int (S.1 41 r2.toNatClampNeg)]) hc hG (mX9_alive l E hm4) mlX9_93 mcX9_alive miX9_alive rfl rfl rfl rfl hl.1 rfl rfl ⟨by decide, by decide⟩ (Nat.le_of_ble_eq_true rfl) ⟨by decide, by decide⟩ dX9_doubtsOf_14 rfl (fun H locs hG => ?_)
  obtain ⟨r7, hm6, h⟩ := g_bv h
  refine g_callSi (As := [.int r5]) hc hG (mJ6_bitCount_0f7a4 l E hm6) mlX9_143 mcJ6_bitCount_0f7a4 msJ6_bitCount_0f7a4 rfl hl.1 rfl rfl ⟨by decide, by decide⟩ (Nat.le_of_ble_eq_true rfl) ⟨by decide, by decide⟩ dX9_doubtsOf_17 rfl (fun H locs hG => ?_)
  exact g_iretp hc hG dX9_doubtsOf_20 h
theorem mX9_doubtsOf (l : Launch) (E : GE) {S : GS} {a1 : Int32} {a2 : Int32} {res : Int32} (h : fX9_doubtsOf S a1 a2 = some res) : gMet l E yX9_doubtsOf cX9_doubtsOf 3 (some .int) rmX9_doubtsOf [gR E 35, .int a1, .int a2] S (some (.int res)) S :=
  g_met (by decide) (Nat.le_of_ble_eq_true rfl) rfl fun p e s m below meth c H ls hc hG hl => wX9_doubtsOf_0 hc S a1 a2 H [] ls hl hG h
abbrev rmX9_isOverruled : Room := { frames := 2, cells := 0, slots := 0, locals := 51 }
def fX9_isOverruled_21 : Nat → GS → Int32 → Int32 → Int32 → Int32 → Option (Int32 × GS)
  | 0, _, _, _, _, _ => none
  | n + 1, S, a1, a2, a3, a4 => (if (S.1 7 0) ≤ a4 then (some ((0 : Int32), S)) else (if a3 = 0 then (some ((0 : Int32), S)) else gbv (fX10_has S a3 a4) fun r4 => (if r4 = 0 then glet (a4 + (1 : Int32)) fun v6 => (fX9_isOverruled_21 n S a1 a2 a3 v6) else (if gib a1 32 = true then gbd (fX9_nameSides S a4 (S.1 8 a1.toNatClampNeg)) fun r9 S10 => (if gib a4 32 = true then gbv (fX9_votesFor S10 a4 a2 (S10.1 11 a4.toNatClampNeg)) fun r13 => glet (gsl S10 50 (5) ((r13).toInt64)) fun S14 => glet (gsl S14 50 (6) ((((S14.1 9 a4.toNatClampNeg) - (S14.1 9 a1.toNatClampNeg))).toInt64)) fun S15 => gbv (fX9_doubtsOf S15 a1 a2) fun r17 => glet (gsl S15 50 (7) ((r17).toInt64)) fun S18 => (if gk (S18.2.2 2) = 7 then (if gk (gr S18.2.2 (S18.2.2 2) 5) = 2 then gbd (fX2_isTrue S18 (gr S18.2.2 (S18.2.2 2) 5)) fun r22 S23 => (if r22 = 0 then glet (a4 + (1 : Int32)) fun v25 => (fX9_isOverruled_21 n S23 a1 a2 a3 v25) else (some ((1 : Int32), S23))) else none) else none) else none) else none))))
set_option maxRecDepth 100000 in
set_option maxHeartbeats 4000000 in
theorem wX9_isOverruled_21 {p : Program} {l : Launch} {e : Env} {s : State} {m : MethodId} {args : Array Value} {below : List Frame} {meth : Method} {c : Code} {E : GE} {res : (Int32 × GS)} (hc : GM E p s m args meth c RX9 cX9_isOverruled 5 (some .boolean)) : ∀ (n : Nat), ∀ (S : GS) (a1 : Int32) (a2 : Int32) (a3 : Int32) (a4 : Int32) (H : Heap) (locs : List Loc) (ls : Array Slot), lv_has ls 5 [(0, gR E 35), (1, .int a1), (2, .int a2), (3, .int a3), (4, .int a4)] → GX E S H locs → fX9_isOverruled_21 n S a1 a2 a3 a4 = some res → W p l e rmX9_isOverruled s m args below meth c H locs 0 0 (gZ E below args s (some (.int res.1)) res.2) (F0 m 21 ls []) := by
  obtain ⟨hx, hb, -, -, -, hown, hts, -, -⟩ := id hc
  intro n
  induction n with
  | zero => intro S a1 a2 a3 a4 H locs ls hl hG h; cases h
  | succ n ih =>
    intro S a1 a2 a3 a4 H locs ls hl hG h
    rw [fX9_isOverruled_21] at h
    refine lv_iload hx hb dX9_isOverruled_21 (lv_at hl 4 rfl) ?_
    refine lv_aload_n hx hb dX9_isOverruled_23 rfl (lv_at hl 0 rfl) ?_
    refine g_getR hc hG 35 7 flX9_29 rfl rfl rfl dX9_isOverruled_24 ?_
    refine g_getI hc hG 7 flX9_52 rfl rfl dX9_isOverruled_27 ?_
    refine lv_icmp_ge (tgt := 156) hx hb dX9_isOverruled_30 (by decide) (fun c1 => ?_) (fun c1 => ?_)
    · have h := g_pos c1 h
      refine lv_iconst (v := (0 : Int32)) hx hb dX9_isOverruled_156 (by decide) ?_
      exact g_zret hc hG (Or.inl rfl) dX9_isOverruled_157 h
    · have h := g_neg c1 h
      refine lv_iload_n hx hb dX9_isOverruled_33 rfl (lv_at hl 3 rfl) ?_
      refine lv_if_eq (tgt := 156) hx hb dX9_isOverruled_34 (by decide) (fun c2 => ?_) (fun c2 => ?_)
      · have h := g_pos c2 h
        refine lv_iconst (v := (0 : Int32)) hx hb dX9_isOverruled_156 (by decide) ?_
        exact g_zret hc hG (Or.inl rfl) dX9_isOverruled_157 h
      · have h := g_neg c2 h
        refine lv_iload_n hx hb dX9_isOverruled_37 rfl (lv_at hl 3 rfl) ?_
        refine lv_iload hx hb dX9_isOverruled_38 (lv_at hl 4 rfl) ?_
        obtain ⟨r4, hm3, h⟩ := g_bv h
        refine g_callSNi (As := [.int a3, .int a4]) hc hG (mX10_has l E hm3) mlX9_77 mcX10_has msX10_has rfl hl.1 rfl rfl ⟨by decide, by decide⟩ (Nat.le_of_ble_eq_true rfl) ⟨by decide, by decide⟩ dX9_isOverruled_40 rfl (fun H locs hG => ?_)
        refine lv_if_eq (tgt := 150) hx hb dX9_isOverruled_43 (by decide) (fun c5 => ?_) (fun c5 => ?_)
        · have h := g_pos c5 h
          obtain ⟨v6, ev6⟩ : ∃ y : Int32, y = (a4 + (1 : Int32)) := ⟨_, rfl⟩
          have h := g_let ev6 h
          refine lv_iinc (v := v6) (lv' := [(4, .int v6), (0, gR E 35), (1, .int a1), (2, .int a2), (3, .int a3)]) hx hb dX9_isOverruled_150 hl (k := 4) rfl (by rw [ev6]; rfl) (by decide) rfl (fun ls hl => ?_)
          refine lv_goto (tgt := 21) hx hb dX9_isOverruled_153 (by decide) ?_
          exact ih S a1 a2 a3 v6 _ _ _ (lv_sub hl [1, 2, 3, 4, 0] rfl) hG h
        · have h := g_neg c5 h
          refine lv_aload_n hx hb dX9_isOverruled_46 rfl (lv_at hl 0 rfl) ?_
          refine lv_iload hx hb dX9_isOverruled_47 (lv_at hl 4 rfl) ?_
          refine lv_aload_n hx hb dX9_isOverruled_49 rfl (lv_at hl 0 rfl) ?_
          refine g_getR hc hG 35 7 flX9_29 rfl rfl rfl dX9_isOverruled_50 ?_
          refine g_getR hc hG 7 8 flX9_110 rfl rfl rfl dX9_isOverruled_53 ?_
          refine lv_iload_n hx hb dX9_isOverruled_56 rfl (lv_at hl 1 rfl) ?_
          obtain ⟨hi7, h⟩ := g_if h
          refine g_iald hc hG 8 32 (a1.toNatClampNeg) rfl rfl hi7 rfl dX9_isOverruled_57 ?_
          obtain ⟨r9, S10, hm8, h⟩ := g_bd h
          refine g_callVv (As := [.int a4, .int (S.1 8 a1.toNatClampNeg)]) hc hG (mX9_nameSides l E hm8) mlX9_173 mcX9_nameSides miX9_nameSides rfl rfl rfl rfl hl.1 rfl rfl ⟨by decide, by decide⟩ (Nat.le_of_ble_eq_true rfl) ⟨by decide, by decide⟩ dX9_isOverruled_58 rfl (fun H locs hG => ?_)
          refine lv_aload_n hx hb dX9_isOverruled_61 rfl (lv_at hl 0 rfl) ?_
          refine g_getR hc hG 35 50 flX9_18 rfl rfl rfl dX9_isOverruled_62 ?_
          refine lv_iconst (v := (5 : Int32)) hx hb dX9_isOverruled_65 (by decide) ?_
          refine lv_aload_n hx hb dX9_isOverruled_66 rfl (lv_at hl 0 rfl) ?_
          refine lv_iload hx hb dX9_isOverruled_67 (lv_at hl 4 rfl) ?_
          refine lv_iload_n hx hb dX9_isOverruled_69 rfl (lv_at hl 2 rfl) ?_
          refine lv_aload_n hx hb dX9_isOverruled_70 rfl (lv_at hl 0 rfl) ?_
          refine g_getR hc hG 35 7 flX9_29 rfl rfl rfl dX9_isOverruled_71 ?_
          refine g_getR hc hG 7 11 flX9_97 rfl rfl rfl dX9_isOverruled_74 ?_
          refine lv_iload hx hb dX9_isOverruled_77 (lv_at hl 4 rfl) ?_
          obtain ⟨hi11, h⟩ := g_if h
          refine g_iald hc hG 11 32 (a4.toNatClampNeg) rfl rfl hi11 rfl dX9_isOverruled_79 ?_
          obtain ⟨r13, hm12, h⟩ := g_bv h
          refine g_callVi (As := [.int a4, .int a2, .int (S10.1 11 a4.toNatClampNeg)]) hc hG (mX9_votesFor l E hm12) mlX9_148 mcX9_votesFor miX9_votesFor rfl rfl rfl rfl hl.1 rfl rfl ⟨by decide, by decide⟩ (Nat.le_of_ble_eq_true rfl) ⟨by decide, by decide⟩ dX9_isOverruled_80 rfl (fun H locs hG => ?_)
          refine lv_i2l (v := ((r13).toInt64)) hx hb dX9_isOverruled_83 rfl ?_
          refine g_last hc hG 50 8 (5) rfl rfl (by decide) (by decide) dX9_isOverruled_84 (fun S14 H locs eS14 hG => ?_)
          have h := g_let eS14 h
          refine lv_aload_n hx hb dX9_isOverruled_85 rfl (lv_at hl 0 rfl) ?_
          refine g_getR hc hG 35 50 flX9_18 rfl rfl rfl dX9_isOverruled_86 ?_
          refine lv_bipush (v := (6 : Int32)) hx hb dX9_isOverruled_89 (by decide) ?_
          refine lv_aload_n hx hb dX9_isOverruled_91 rfl (lv_at hl 0 rfl) ?_
          refine g_getR hc hG 35 7 flX9_29 rfl rfl rfl dX9_isOverruled_92 ?_
          refine g_getR hc hG 7 9 flX9_68 rfl rfl rfl dX9_isOverruled_95 ?_
          refine lv_iload hx hb dX9_isOverruled_98 (lv_at hl 4 rfl) ?_
          refine g_iald hc hG 9 32 (a4.toNatClampNeg) rfl rfl hi11 rfl dX9_isOverruled_100 ?_
          refine lv_aload_n hx hb dX9_isOverruled_101 rfl (lv_at hl 0 rfl) ?_
          refine g_getR hc hG 35 7 flX9_29 rfl rfl rfl dX9_isOverruled_102 ?_
          refine g_getR hc hG 7 9 flX9_68 rfl rfl rfl dX9_isOverruled_105 ?_
          refine lv_iload_n hx hb dX9_isOverruled_108 rfl (lv_at hl 1 rfl) ?_
          refine g_iald hc hG 9 32 (a1.toNatClampNeg) rfl rfl hi7 rfl dX9_isOverruled_109 ?_
          refine lv_isub hx hb dX9_isOverruled_110 ?_
          refine lv_i2l (v := ((((S14.1 9 a4.toNatClampNeg) - (S14.1 9 a1.toNatClampNeg))).toInt64)) hx hb dX9_isOverruled_111 rfl ?_
          refine g_last hc hG 50 8 (6) rfl rfl (by decide) (by decide) dX9_isOverruled_112 (fun S15 H locs eS15 hG => ?_)
          have h := g_let eS15 h
          refine lv_aload_n hx hb dX9_isOverruled_113 rfl (lv_at hl 0 rfl) ?_
          refine g_getR hc hG 35 50 flX9_18 rfl rfl rfl dX9_isOverruled_114 ?_
          refine lv_bipush (v := (7 : Int32)) hx hb dX9_isOverruled_117 (by decide) ?_
          refine lv_aload_n hx hb dX9_isOverruled_119 rfl (lv_at hl 0 rfl) ?_
          refine lv_iload_n hx hb dX9_isOverruled_120 rfl (lv_at hl 1 rfl) ?_
          refine lv_iload_n hx hb dX9_isOverruled_121 rfl (lv_at hl 2 rfl) ?_
          obtain ⟨r17, hm16, h⟩ := g_bv h
          refine g_callVi (As := [.int a1, .int a2]) hc hG (mX9_doubtsOf l E hm16) mlX9_176 mcX9_doubtsOf miX9_doubtsOf rfl rfl rfl rfl hl.1 rfl rfl ⟨by decide, by decide⟩ (Nat.le_of_ble_eq_true rfl) ⟨by decide, by decide⟩ dX9_isOverruled_122 rfl (fun H locs hG => ?_)
          refine lv_i2l (v := ((r17).toInt64)) hx hb dX9_isOverruled_125 rfl ?_
          refine g_last hc hG 50 8 (7) rfl rfl (by decide) (by decide) dX9_isOverruled_126 (fun S18 H locs eS18 hG => ?_)
          have h := g_let eS18 h
          refine lv_aload_n hx hb dX9_isOverruled_127 rfl (lv_at hl 0 rfl) ?_
          refine g_getR hc hG 35 (S18.2.2 2) flX9_44 rfl rfl rfl dX9_isOverruled_128 ?_
          obtain ⟨hk19, h⟩ := g_if h
          refine g_getR hc hG (S18.2.2 2) (gr S18.2.2 (S18.2.2 2) 5) flX9_179 hk19 rfl rfl dX9_isOverruled_131 ?_
          refine lv_aload_n hx hb dX9_isOverruled_134 rfl (lv_at hl 0 rfl) ?_
          refine g_getR hc hG 35 50 flX9_18 rfl rfl rfl dX9_isOverruled_135 ?_
          refine lv_aload_n hx hb dX9_isOverruled_138 rfl (lv_at hl 0 rfl) ?_
          refine g_getR hc hG 35 51 flX9_22 rfl rfl rfl dX9_isOverruled_139 ?_
          obtain ⟨hk20, h⟩ := g_if h
          obtain ⟨r22, S23, hm21, h⟩ := g_bd h
          refine g_callVi (As := [gR E 50, gR E 51]) hc hG (mX2_isTrue l E hm21) mlX9_185 mcX2_isTrue miX2_isTrue hk20 rfl rfl rfl hl.1 rfl rfl ⟨by decide, by decide⟩ (Nat.le_of_ble_eq_true rfl) ⟨by decide, by decide⟩ dX9_isOverruled_142 rfl (fun H locs hG => ?_)
          refine lv_if_eq (tgt := 150) hx hb dX9_isOverruled_145 (by decide) (fun c24 => ?_) (fun c24 => ?_)
          · have h := g_pos c24 h
            obtain ⟨v25, ev25⟩ : ∃ y : Int32, y = (a4 + (1 : Int32)) := ⟨_, rfl⟩
            have h := g_let ev25 h
            refine lv_iinc (v := v25) (lv' := [(4, .int v25), (0, gR E 35), (1, .int a1), (2, .int a2), (3, .int a3)]) hx hb dX9_isOverruled_150 hl (k := 4) rfl (by rw [ev25]; rfl) (by decide) rfl (fun ls hl => ?_)
            refine lv_goto (tgt := 21) hx hb dX9_isOverruled_153 (by decide) ?_
            exact ih S23 a1 a2 a3 v25 _ _ _ (lv_sub hl [1, 2, 3, 4, 0] rfl) hG h
          · have h := g_neg c24 h
            refine lv_iconst (v := (1 : Int32)) hx hb dX9_isOverruled_148 (by decide) ?_
            exact g_zret hc hG (Or.inr rfl) dX9_isOverruled_149 h
def fX9_isOverruled (S : GS) (a1 : Int32) (a2 : Int32) : Option (Int32 × GS) := gbv (fX3_placeOf S a1 a2) fun r2 => (if gib r2 384 = true then gbv (fX9_alive S (S.1 40 r2.toNatClampNeg)) fun r5 => glet (0 : Int32) fun v6 => (fX9_isOverruled_21 FU S a1 a2 r5 v6) else none)
set_option maxRecDepth 100000 in
set_option maxHeartbeats 4000000 in
theorem wX9_isOverruled_0 {p : Program} {l : Launch} {e : Env} {s : State} {m : MethodId} {args : Array Value} {below : List Frame} {meth : Method} {c : Code} {E : GE} {res : (Int32 × GS)} (hc : GM E p s m args meth c RX9 cX9_isOverruled 5 (some .boolean)) : ∀ (S : GS) (a1 : Int32) (a2 : Int32) (H : Heap) (locs : List Loc) (ls : Array Slot), lv_has ls 5 [(0, gR E 35), (1, .int a1), (2, .int a2)] → GX E S H locs → fX9_isOverruled S a1 a2 = some res → W p l e rmX9_isOverruled s m args below meth c H locs 0 0 (gZ E below args s (some (.int res.1)) res.2) (F0 m 0 ls []) := by
  obtain ⟨hx, hb, -, -, -, hown, hts, -, -⟩ := id hc
  intro S a1 a2 H locs ls hl hG h
  unfold fX9_isOverruled at h
  refine lv_aload_n hx hb dX9_isOverruled_0 rfl (lv_at hl 0 rfl) ?_
  refine lv_aload_n hx hb dX9_isOverruled_1 rfl (lv_at hl 0 rfl) ?_
  refine g_getR hc hG 35 36 flX9_40 rfl rfl rfl dX9_isOverruled_2 ?_
  refine g_getR hc hG 36 40 flX9_170 rfl rfl rfl dX9_isOverruled_5 ?_
  refine lv_iload_n hx hb dX9_isOverruled_8 rfl (lv_at hl 1 rfl) ?_
  refine lv_iload_n hx hb dX9_isOverruled_9 rfl (lv_at hl 2 rfl) ?_
  obtain ⟨r2, hm1, h⟩ := g_bv h
  refine g_callSi (As := [.int a1, .int a2]) hc hG (mX3_placeOf l E hm1) mlX9_166 mcX3_placeOf msX3_placeOf rfl hl.1 rfl rfl ⟨by decide, by decide⟩ (Nat.le_of_ble_eq_true rfl) ⟨by decide, by decide⟩ dX9_isOverruled_10 rfl (fun H locs hG => ?_)
  obtain ⟨hi3, h⟩ := g_if h
  refine g_iald hc hG 40 384 (r2.toNatClampNeg) rfl rfl hi3 rfl dX9_isOverruled_13 ?_
  obtain ⟨r5, hm4, h⟩ := g_bv h
  refine g_callVi (As := [.int (S.1 40 r2.toNatClampNeg)]) hc hG (mX9_alive l E hm4) mlX9_93 mcX9_alive miX9_alive rfl rfl rfl rfl hl.1 rfl rfl ⟨by decide, by decide⟩ (Nat.le_of_ble_eq_true rfl) ⟨by decide, by decide⟩ dX9_isOverruled_14 rfl (fun H locs hG => ?_)
  refine lv_istore_n (lv' := [(3, .int r5), (0, gR E 35), (1, .int a1), (2, .int a2)]) hx hb dX9_isOverruled_17 rfl hl (by decide) rfl (fun ls hl => ?_)
  refine lv_iconst (v := (0 : Int32)) hx hb dX9_isOverruled_18 (by decide) ?_
  refine lv_topi (fun v6 ev6 => ?_)
  have h := g_let ev6 h
  refine lv_istore (lv' := [(4, .int v6), (3, .int r5), (0, gR E 35), (1, .int a1), (2, .int a2)]) hx hb dX9_isOverruled_19 hl (by decide) rfl (fun ls hl => ?_)
  exact wX9_isOverruled_21 hc FU S a1 a2 r5 v6 _ _ _ (lv_sub hl [2, 3, 4, 1, 0] rfl) hG h
theorem mX9_isOverruled (l : Launch) (E : GE) {S : GS} {a1 : Int32} {a2 : Int32} {res : (Int32 × GS)} (h : fX9_isOverruled S a1 a2 = some res) : gMet l E yX9_isOverruled cX9_isOverruled 5 (some .boolean) rmX9_isOverruled [gR E 35, .int a1, .int a2] S (some (.int res.1)) res.2 :=
  g_met (by decide) (Nat.le_of_ble_eq_true rfl) rfl fun p e s m below meth c H ls hc hG hl => wX9_isOverruled_0 hc S a1 a2 H [] ls hl hG h
abbrev rmX9_doesBind : Room := { frames := 2, cells := 0, slots := 0, locals := 51 }
def fX9_doesBind (S : GS) (a1 : Int32) (a2 : Int32) (a3 : Int32) (a4 : Int32) : Option (Int32 × GS) := gbd (fX9_nameSides S a1 a3) fun r2 S3 => gbv (fX9_votesFor S3 a1 a2 a4) fun r5 => glet (gsl S3 50 (5) ((r5).toInt64)) fun S6 => (if gib a1 32 = true then glet (gsl S6 50 (6) ((((S6.1 35 5) - (S6.1 9 a1.toNatClampNeg))).toInt64)) fun S8 => gbv (fX9_doubtsOf S8 a1 a2) fun r10 => glet (gsl S8 50 (7) ((r10).toInt64)) fun S11 => (if gk (S11.2.2 2) = 7 then (if gk (gr S11.2.2 (S11.2.2 2) 4) = 2 then gbd (fX2_isTrue S11 (gr S11.2.2 (S11.2.2 2) 4)) fun r15 S16 => (if (r15 = 0 ∨ r15 = 1) then (some (r15, S16)) else none) else none) else none) else none)
set_option maxRecDepth 100000 in
set_option maxHeartbeats 4000000 in
theorem wX9_doesBind_0 {p : Program} {l : Launch} {e : Env} {s : State} {m : MethodId} {args : Array Value} {below : List Frame} {meth : Method} {c : Code} {E : GE} {res : (Int32 × GS)} (hc : GM E p s m args meth c RX9 cX9_doesBind 5 (some .boolean)) : ∀ (S : GS) (a1 : Int32) (a2 : Int32) (a3 : Int32) (a4 : Int32) (H : Heap) (locs : List Loc) (ls : Array Slot), lv_has ls 5 [(0, gR E 35), (1, .int a1), (2, .int a2), (3, .int a3), (4, .int a4)] → GX E S H locs → fX9_doesBind S a1 a2 a3 a4 = some res → W p l e rmX9_doesBind s m args below meth c H locs 0 0 (gZ E below args s (some (.int res.1)) res.2) (F0 m 0 ls []) := by
  obtain ⟨hx, hb, -, -, -, hown, hts, -, -⟩ := id hc
  intro S a1 a2 a3 a4 H locs ls hl hG h
  unfold fX9_doesBind at h
  refine lv_aload_n hx hb dX9_doesBind_0 rfl (lv_at hl 0 rfl) ?_
  refine lv_iload_n hx hb dX9_doesBind_1 rfl (lv_at hl 1 rfl) ?_
  refine lv_iload_n hx hb dX9_doesBind_2 rfl (lv_at hl 3 rfl) ?_
  obtain ⟨r2, S3, hm1, h⟩ := g_bd h
  refine g_callVv (As := [.int a1, .int a3]) hc hG (mX9_nameSides l E hm1) mlX9_173 mcX9_nameSides miX9_nameSides rfl rfl rfl rfl hl.1 rfl rfl ⟨by decide, by decide⟩ (Nat.le_of_ble_eq_true rfl) ⟨by decide, by decide⟩ dX9_doesBind_3 rfl (fun H locs hG => ?_)
  refine lv_aload_n hx hb dX9_doesBind_6 rfl (lv_at hl 0 rfl) ?_
  refine g_getR hc hG 35 50 flX9_18 rfl rfl rfl dX9_doesBind_7 ?_
  refine lv_iconst (v := (5 : Int32)) hx hb dX9_doesBind_10 (by decide) ?_
  refine lv_aload_n hx hb dX9_doesBind_11 rfl (lv_at hl 0 rfl) ?_
  refine lv_iload_n hx hb dX9_doesBind_12 rfl (lv_at hl 1 rfl) ?_
  refine lv_iload_n hx hb dX9_doesBind_13 rfl (lv_at hl 2 rfl) ?_
  refine lv_iload hx hb dX9_doesBind_14 (lv_at hl 4 rfl) ?_
  obtain ⟨r5, hm4, h⟩ := g_bv h
  refine g_callVi (As := [.int a1, .int a2, .int a4]) hc hG (mX9_votesFor l E hm4) mlX9_148 mcX9_votesFor miX9_votesFor rfl rfl rfl rfl hl.1 rfl rfl ⟨by decide, by decide⟩ (Nat.le_of_ble_eq_true rfl) ⟨by decide, by decide⟩ dX9_doesBind_16 rfl (fun H locs hG => ?_)
  refine lv_i2l (v := ((r5).toInt64)) hx hb dX9_doesBind_19 rfl ?_
  refine g_last hc hG 50 8 (5) rfl rfl (by decide) (by decide) dX9_doesBind_20 (fun S6 H locs eS6 hG => ?_)
  have h := g_let eS6 h
  refine lv_aload_n hx hb dX9_doesBind_21 rfl (lv_at hl 0 rfl) ?_
  refine g_getR hc hG 35 50 flX9_18 rfl rfl rfl dX9_doesBind_22 ?_
  refine lv_bipush (v := (6 : Int32)) hx hb dX9_doesBind_25 (by decide) ?_
  refine lv_aload_n hx hb dX9_doesBind_27 rfl (lv_at hl 0 rfl) ?_
  refine g_getI hc hG 35 flX9_81 rfl rfl dX9_doesBind_28 ?_
  refine lv_aload_n hx hb dX9_doesBind_31 rfl (lv_at hl 0 rfl) ?_
  refine g_getR hc hG 35 7 flX9_29 rfl rfl rfl dX9_doesBind_32 ?_
  refine g_getR hc hG 7 9 flX9_68 rfl rfl rfl dX9_doesBind_35 ?_
  refine lv_iload_n hx hb dX9_doesBind_38 rfl (lv_at hl 1 rfl) ?_
  obtain ⟨hi7, h⟩ := g_if h
  refine g_iald hc hG 9 32 (a1.toNatClampNeg) rfl rfl hi7 rfl dX9_doesBind_39 ?_
  refine lv_isub hx hb dX9_doesBind_40 ?_
  refine lv_i2l (v := ((((S6.1 35 5) - (S6.1 9 a1.toNatClampNeg))).toInt64)) hx hb dX9_doesBind_41 rfl ?_
  refine g_last hc hG 50 8 (6) rfl rfl (by decide) (by decide) dX9_doesBind_42 (fun S8 H locs eS8 hG => ?_)
  have h := g_let eS8 h
  refine lv_aload_n hx hb dX9_doesBind_43 rfl (lv_at hl 0 rfl) ?_
  refine g_getR hc hG 35 50 flX9_18 rfl rfl rfl dX9_doesBind_44 ?_
  refine lv_bipush (v := (7 : Int32)) hx hb dX9_doesBind_47 (by decide) ?_
  refine lv_aload_n hx hb dX9_doesBind_49 rfl (lv_at hl 0 rfl) ?_
  refine lv_iload_n hx hb dX9_doesBind_50 rfl (lv_at hl 1 rfl) ?_
  refine lv_iload_n hx hb dX9_doesBind_51 rfl (lv_at hl 2 rfl) ?_
  obtain ⟨r10, hm9, h⟩ := g_bv h
  refine g_callVi (As := [.int a1, .int a2]) hc hG (mX9_doubtsOf l E hm9) mlX9_176 mcX9_doubtsOf miX9_doubtsOf rfl rfl rfl rfl hl.1 rfl rfl ⟨by decide, by decide⟩ (Nat.le_of_ble_eq_true rfl) ⟨by decide, by decide⟩ dX9_doesBind_52 rfl (fun H locs hG => ?_)
  refine lv_i2l (v := ((r10).toInt64)) hx hb dX9_doesBind_55 rfl ?_
  refine g_last hc hG 50 8 (7) rfl rfl (by decide) (by decide) dX9_doesBind_56 (fun S11 H locs eS11 hG => ?_)
  have h := g_let eS11 h
  refine lv_aload_n hx hb dX9_doesBind_57 rfl (lv_at hl 0 rfl) ?_
  refine g_getR hc hG 35 (S11.2.2 2) flX9_44 rfl rfl rfl dX9_doesBind_58 ?_
  obtain ⟨hk12, h⟩ := g_if h
  refine g_getR hc hG (S11.2.2 2) (gr S11.2.2 (S11.2.2 2) 4) flX9_191 hk12 rfl rfl dX9_doesBind_61 ?_
  refine lv_aload_n hx hb dX9_doesBind_64 rfl (lv_at hl 0 rfl) ?_
  refine g_getR hc hG 35 50 flX9_18 rfl rfl rfl dX9_doesBind_65 ?_
  refine lv_aload_n hx hb dX9_doesBind_68 rfl (lv_at hl 0 rfl) ?_
  refine g_getR hc hG 35 51 flX9_22 rfl rfl rfl dX9_doesBind_69 ?_
  obtain ⟨hk13, h⟩ := g_if h
  obtain ⟨r15, S16, hm14, h⟩ := g_bd h
  refine g_callVi (As := [gR E 50, gR E 51]) hc hG (mX2_isTrue l E hm14) mlX9_185 mcX2_isTrue miX2_isTrue hk13 rfl rfl rfl hl.1 rfl rfl ⟨by decide, by decide⟩ (Nat.le_of_ble_eq_true rfl) ⟨by decide, by decide⟩ dX9_doesBind_72 rfl (fun H locs hG => ?_)
  obtain ⟨hz17, h⟩ := g_if h
  exact g_zret hc hG hz17 dX9_doesBind_75 h
theorem mX9_doesBind (l : Launch) (E : GE) {S : GS} {a1 : Int32} {a2 : Int32} {a3 : Int32} {a4 : Int32} {res : (Int32 × GS)} (h : fX9_doesBind S a1 a2 a3 a4 = some res) : gMet l E yX9_doesBind cX9_doesBind 5 (some .boolean) rmX9_doesBind [gR E 35, .int a1, .int a2, .int a3, .int a4] S (some (.int res.1)) res.2 :=
  g_met (by decide) (Nat.le_of_ble_eq_true rfl) rfl fun p e s m below meth c H ls hc hG hl => wX9_doesBind_0 hc S a1 a2 a3 a4 H [] ls hl hG h
abbrev rmX9_weightOf : Room := { frames := 3, cells := 0, slots := 0, locals := 75 }
def fX9_weightOf (S : GS) (a1 : Int32) (a2 : Int32) (a3 : Int32) (a4 : Int32) : Option (Int32 × GS) := gbv (fX9_isSpokenOf S a1 a2 a4) fun r2 => (if r2 = 0 then (some ((0 : Int32), S)) else gbv (fX9_isTaken S a1 a2) fun r5 => (if r5 = 0 then gbd (fX9_isOverruled S a1 a2) fun r8 S9 => (if r8 = 0 then (if gib a1 32 = true then gbv (fX10_has S9 (S9.1 48 a1.toNatClampNeg) a2) fun r13 => (if r13 = 0 then gbv (fX9_isHeld S9 a1 a2 a4) fun r16 => (if r16 = 0 then (some ((1 : Int32), S9)) else gbd (fX9_doesBind S9 a1 a2 a3 a4) fun r19 S20 => (if r19 = 0 then (some ((1 : Int32), S20)) else gbv (fX9_doubtsOf S20 a1 a2) fun r23 => (if gk (S20.2.2 2) = 7 then (if r23 < (S20.1 (S20.2.2 2) 2) then (some ((3 : Int32), S20)) else (some ((2 : Int32), S20))) else none))) else (some ((1 : Int32), S9))) else none) else (some ((0 : Int32), S9))) else (some ((0 : Int32), S))))
set_option maxRecDepth 100000 in
set_option maxHeartbeats 4000000 in
theorem wX9_weightOf_0 {p : Program} {l : Launch} {e : Env} {s : State} {m : MethodId} {args : Array Value} {below : List Frame} {meth : Method} {c : Code} {E : GE} {res : (Int32 × GS)} (hc : GM E p s m args meth c RX9 cX9_weightOf 5 (some .int)) : ∀ (S : GS) (a1 : Int32) (a2 : Int32) (a3 : Int32) (a4 : Int32) (H : Heap) (locs : List Loc) (ls : Array Slot), lv_has ls 5 [(0, gR E 35), (1, .int a1), (2, .int a2), (3, .int a3), (4, .int a4)] → GX E S H locs → fX9_weightOf S a1 a2 a3 a4 = some res → W p l e rmX9_weightOf s m args below meth c H locs 0 0 (gZ E below args s (some (.int res.1)) res.2) (F0 m 0 ls []) := by
  obtain ⟨hx, hb, -, -, -, hown, hts, -, -⟩ := id hc
  intro S a1 a2 a3 a4 H locs ls hl hG h
  unfold fX9_weightOf at h
  refine lv_aload_n hx hb dX9_weightOf_0 rfl (lv_at hl 0 rfl) ?_
  refine lv_iload_n hx hb dX9_weightOf_1 rfl (lv_at hl 1 rfl) ?_
  refine lv_iload_n hx hb dX9_weightOf_2 rfl (lv_at hl 2 rfl) ?_
  refine lv_iload hx hb dX9_weightOf_3 (lv_at hl 4 rfl) ?_
  obtain ⟨r2, hm1, h⟩ := g_bv h
  refine g_callVi (As := [.int a1, .int a2, .int a4]) hc hG (mX9_isSpokenOf l E hm1) mlX9_208 mcX9_isSpokenOf miX9_isSpokenOf rfl rfl rfl rfl hl.1 rfl rfl ⟨by decide, by decide⟩ (Nat.le_of_ble_eq_true rfl) ⟨by decide, by decide⟩ dX9_weightOf_5 rfl (fun H locs hG => ?_)
  refine lv_if_eq (tgt := 29) hx hb dX9_weightOf_8 (by decide) (fun c3 => ?_) (fun c3 => ?_)
  · have h := g_pos c3 h
    refine lv_iconst (v := (0 : Int32)) hx hb dX9_weightOf_29 (by decide) ?_
    exact g_iret hc hG dX9_weightOf_30 h
  · have h := g_neg c3 h
    refine lv_aload_n hx hb dX9_weightOf_11 rfl (lv_at hl 0 rfl) ?_
    refine lv_iload_n hx hb dX9_weightOf_12 rfl (lv_at hl 1 rfl) ?_
    refine lv_iload_n hx hb dX9_weightOf_13 rfl (lv_at hl 2 rfl) ?_
    obtain ⟨r5, hm4, h⟩ := g_bv h
    refine g_callVi (As := [.int a1, .int a2]) hc hG (mX9_isTaken l E hm4) mlX9_211 mcX9_isTaken miX9_isTaken rfl rfl rfl rfl hl.1 rfl rfl ⟨by decide, by decide⟩ (Nat.le_of_ble_eq_true rfl) ⟨by decide, by decide⟩ dX9_weightOf_14 rfl (fun H locs hG => ?_)
    refine lv_if_ne (tgt := 29) hx hb dX9_weightOf_17 (by decide) (fun c6 => ?_) (fun c6 => ?_)
    · have h := g_neg c6 h
      refine lv_iconst (v := (0 : Int32)) hx hb dX9_weightOf_29 (by decide) ?_
      exact g_iret hc hG dX9_weightOf_30 h
    · have h := g_pos c6 h
      refine lv_aload_n hx hb dX9_weightOf_20 rfl (lv_at hl 0 rfl) ?_
      refine lv_iload_n hx hb dX9_weightOf_21 rfl (lv_at hl 1 rfl) ?_
      refine lv_iload_n hx hb dX9_weightOf_22 rfl (lv_at hl 2 rfl) ?_
      obtain ⟨r8, S9, hm7, h⟩ := g_bd h
      refine g_callVi (As := [.int a1, .int a2]) hc hG (mX9_isOverruled l E hm7) mlX9_214 mcX9_isOverruled miX9_isOverruled rfl rfl rfl rfl hl.1 rfl rfl ⟨by decide, by decide⟩ (Nat.le_of_ble_eq_true rfl) ⟨by decide, by decide⟩ dX9_weightOf_23 rfl (fun H locs hG => ?_)
      refine lv_if_eq (tgt := 31) hx hb dX9_weightOf_26 (by decide) (fun c10 => ?_) (fun c10 => ?_)
      · have h := g_pos c10 h
        refine lv_aload_n hx hb dX9_weightOf_31 rfl (lv_at hl 0 rfl) ?_
        refine g_getR hc hG 35 48 flX9_9 rfl rfl rfl dX9_weightOf_32 ?_
        refine lv_iload_n hx hb dX9_weightOf_35 rfl (lv_at hl 1 rfl) ?_
        obtain ⟨hi11, h⟩ := g_if h
        refine g_iald hc hG 48 32 (a1.toNatClampNeg) rfl rfl hi11 rfl dX9_weightOf_36 ?_
        refine lv_iload_n hx hb dX9_weightOf_37 rfl (lv_at hl 2 rfl) ?_
        obtain ⟨r13, hm12, h⟩ := g_bv h
        refine g_callSNi (As := [.int (S9.1 48 a1.toNatClampNeg), .int a2]) hc hG (mX10_has l E hm12) mlX9_77 mcX10_has msX10_has rfl hl.1 rfl rfl ⟨by decide, by decide⟩ (Nat.le_of_ble_eq_true rfl) ⟨by decide, by decide⟩ dX9_weightOf_38 rfl (fun H locs hG => ?_)
        refine lv_if_ne (tgt := 67) hx hb dX9_weightOf_41 (by decide) (fun c14 => ?_) (fun c14 => ?_)
        · have h := g_neg c14 h
          refine lv_iconst (v := (1 : Int32)) hx hb dX9_weightOf_67 (by decide) ?_
          exact g_iret hc hG dX9_weightOf_68 h
        · have h := g_pos c14 h
          refine lv_aload_n hx hb dX9_weightOf_44 rfl (lv_at hl 0 rfl) ?_
          refine lv_iload_n hx hb dX9_weightOf_45 rfl (lv_at hl 1 rfl) ?_
          refine lv_iload_n hx hb dX9_weightOf_46 rfl (lv_at hl 2 rfl) ?_
          refine lv_iload hx hb dX9_weightOf_47 (lv_at hl 4 rfl) ?_
          obtain ⟨r16, hm15, h⟩ := g_bv h
          refine g_callVi (As := [.int a1, .int a2, .int a4]) hc hG (mX9_isHeld l E hm15) mlX9_103 mcX9_isHeld miX9_isHeld rfl rfl rfl rfl hl.1 rfl rfl ⟨by decide, by decide⟩ (Nat.le_of_ble_eq_true rfl) ⟨by decide, by decide⟩ dX9_weightOf_49 rfl (fun H locs hG => ?_)
          refine lv_if_eq (tgt := 67) hx hb dX9_weightOf_52 (by decide) (fun c17 => ?_) (fun c17 => ?_)
          · have h := g_pos c17 h
            refine lv_iconst (v := (1 : Int32)) hx hb dX9_weightOf_67 (by decide) ?_
            exact g_iret hc hG dX9_weightOf_68 h
          · have h := g_neg c17 h
            refine lv_aload_n hx hb dX9_weightOf_55 rfl (lv_at hl 0 rfl) ?_
            refine lv_iload_n hx hb dX9_weightOf_56 rfl (lv_at hl 1 rfl) ?_
            refine lv_iload_n hx hb dX9_weightOf_57 rfl (lv_at hl 2 rfl) ?_
            refine lv_iload_n hx hb dX9_weightOf_58 rfl (lv_at hl 3 rfl) ?_
            refine lv_iload hx hb dX9_weightOf_59 (lv_at hl 4 rfl) ?_
            obtain ⟨r19, S20, hm18, h⟩ := g_bd h
            refine g_callVi (As := [.int a1, .int a2, .int a3, .int a4]) hc hG (mX9_doesBind l E hm18) mlX9_217 mcX9_doesBind miX9_doesBind rfl rfl rfl rfl hl.1 rfl rfl ⟨by decide, by decide⟩ (Nat.le_of_ble_eq_true rfl) ⟨by decide, by decide⟩ dX9_weightOf_61 rfl (fun H locs hG => ?_)
            refine lv_if_ne (tgt := 69) hx hb dX9_weightOf_64 (by decide) (fun c21 => ?_) (fun c21 => ?_)
            · have h := g_neg c21 h
              refine lv_aload_n hx hb dX9_weightOf_69 rfl (lv_at hl 0 rfl) ?_
              refine lv_iload_n hx hb dX9_weightOf_70 rfl (lv_at hl 1 rfl) ?_
              refine lv_iload_n hx hb dX9_weightOf_71 rfl (lv_at hl 2 rfl) ?_
              obtain ⟨r23, hm22, h⟩ := g_bv h
              refine g_callVi (As := [.int a1, .int a2]) hc hG (mX9_doubtsOf l E hm22) mlX9_176 mcX9_doubtsOf miX9_doubtsOf rfl rfl rfl rfl hl.1 rfl rfl ⟨by decide, by decide⟩ (Nat.le_of_ble_eq_true rfl) ⟨by decide, by decide⟩ dX9_weightOf_72 rfl (fun H locs hG => ?_)
              refine lv_aload_n hx hb dX9_weightOf_75 rfl (lv_at hl 0 rfl) ?_
              refine g_getR hc hG 35 (S20.2.2 2) flX9_44 rfl rfl rfl dX9_weightOf_76 ?_
              obtain ⟨hk24, h⟩ := g_if h
              refine g_getI hc hG (S20.2.2 2) flX9_221 hk24 rfl dX9_weightOf_79 ?_
              refine lv_icmp_lt (tgt := 89) hx hb dX9_weightOf_82 (by decide) (fun c25 => ?_) (fun c25 => ?_)
              · have h := g_pos c25 h
                refine lv_iconst (v := (3 : Int32)) hx hb dX9_weightOf_89 (by decide) ?_
                exact g_iret hc hG dX9_weightOf_90 h
              · have h := g_neg c25 h
                refine lv_iconst (v := (2 : Int32)) hx hb dX9_weightOf_85 (by decide) ?_
                refine lv_goto (tgt := 90) hx hb dX9_weightOf_86 (by decide) ?_
                exact g_iret hc hG dX9_weightOf_90 h
            · have h := g_pos c21 h
              refine lv_iconst (v := (1 : Int32)) hx hb dX9_weightOf_67 (by decide) ?_
              exact g_iret hc hG dX9_weightOf_68 h
      · have h := g_neg c10 h
        refine lv_iconst (v := (0 : Int32)) hx hb dX9_weightOf_29 (by decide) ?_
        exact g_iret hc hG dX9_weightOf_30 h
theorem mX9_weightOf (l : Launch) (E : GE) {S : GS} {a1 : Int32} {a2 : Int32} {a3 : Int32} {a4 : Int32} {res : (Int32 × GS)} (h : fX9_weightOf S a1 a2 a3 a4 = some res) : gMet l E yX9_weightOf cX9_weightOf 5 (some .int) rmX9_weightOf [gR E 35, .int a1, .int a2, .int a3, .int a4] S (some (.int res.1)) res.2 :=
  g_met (by decide) (Nat.le_of_ble_eq_true rfl) rfl fun p e s m below meth c H ls hc hG hl => wX9_weightOf_0 hc S a1 a2 a3 a4 H [] ls hl hG h
abbrev rmX9_bindersOf : Room := { frames := 4, cells := 0, slots := 0, locals := 99 }
def fX9_bindersOf_21 : Nat → GS → Int32 → Int32 → Int32 → Int32 → Int32 → Int32 → Option (Int32 × GS)
  | 0, _, _, _, _, _, _, _ => none
  | n + 1, S, a1, a2, a3, a4, a5, a6 => (if (S.1 7 0) ≤ a6 then (some (a4, S)) else (if a5 = 0 then (some (a4, S)) else gbv (fX10_has S a5 a6) fun r4 => (if r4 = 0 then glet (a6 + (1 : Int32)) fun v6 => (fX9_bindersOf_21 n S a1 a2 a3 a4 a5 v6) else gbd (fX9_weightOf S a6 a1 a2 a3) fun r8 S9 => (if r8 < (2 : Int32) then glet (a6 + (1 : Int32)) fun v11 => (fX9_bindersOf_21 n S9 a1 a2 a3 a4 a5 v11) else glet (a4 ||| ((1 : Int32) <<< (a6 &&& 31))) fun v12 => glet (a6 + (1 : Int32)) fun v13 => (fX9_bindersOf_21 n S9 a1 a2 a3 v12 a5 v13)))))
set_option maxRecDepth 100000 in
set_option maxHeartbeats 4000000 in
theorem wX9_bindersOf_21 {p : Program} {l : Launch} {e : Env} {s : State} {m : MethodId} {args : Array Value} {below : List Frame} {meth : Method} {c : Code} {E : GE} {res : (Int32 × GS)} (hc : GM E p s m args meth c RX9 cX9_bindersOf 7 (some .int)) : ∀ (n : Nat), ∀ (S : GS) (a1 : Int32) (a2 : Int32) (a3 : Int32) (a4 : Int32) (a5 : Int32) (a6 : Int32) (H : Heap) (locs : List Loc) (ls : Array Slot), lv_has ls 7 [(0, gR E 35), (1, .int a1), (2, .int a2), (3, .int a3), (4, .int a4), (5, .int a5), (6, .int a6)] → GX E S H locs → fX9_bindersOf_21 n S a1 a2 a3 a4 a5 a6 = some res → W p l e rmX9_bindersOf s m args below meth c H locs 0 0 (gZ E below args s (some (.int res.1)) res.2) (F0 m 21 ls []) := by
  obtain ⟨hx, hb, -, -, -, hown, hts, -, -⟩ := id hc
  intro n
  induction n with
  | zero => intro S a1 a2 a3 a4 a5 a6 H locs ls hl hG h; cases h
  | succ n ih =>
    intro S a1 a2 a3 a4 a5 a6 H locs ls hl hG h
    rw [fX9_bindersOf_21] at h
    refine lv_iload hx hb dX9_bindersOf_21 (lv_at hl 6 rfl) ?_
    refine lv_aload_n hx hb dX9_bindersOf_23 rfl (lv_at hl 0 rfl) ?_
    refine g_getR hc hG 35 7 flX9_29 rfl rfl rfl dX9_bindersOf_24 ?_
    refine g_getI hc hG 7 flX9_52 rfl rfl dX9_bindersOf_27 ?_
    refine lv_icmp_ge (tgt := 76) hx hb dX9_bindersOf_30 (by decide) (fun c1 => ?_) (fun c1 => ?_)
    · have h := g_pos c1 h
      refine lv_iload hx hb dX9_bindersOf_76 (lv_at hl 4 rfl) ?_
      exact g_iret hc hG dX9_bindersOf_78 h
    · have h := g_neg c1 h
      refine lv_iload hx hb dX9_bindersOf_33 (lv_at hl 5 rfl) ?_
      refine lv_if_eq (tgt := 76) hx hb dX9_bindersOf_35 (by decide) (fun c2 => ?_) (fun c2 => ?_)
      · have h := g_pos c2 h
        refine lv_iload hx hb dX9_bindersOf_76 (lv_at hl 4 rfl) ?_
        exact g_iret hc hG dX9_bindersOf_78 h
      · have h := g_neg c2 h
        refine lv_iload hx hb dX9_bindersOf_38 (lv_at hl 5 rfl) ?_
        refine lv_iload hx hb dX9_bindersOf_40 (lv_at hl 6 rfl) ?_
        obtain ⟨r4, hm3, h⟩ := g_bv h
        refine g_callSNi (As := [.int a5, .int a6]) hc hG (mX10_has l E hm3) mlX9_77 mcX10_has msX10_has rfl hl.1 rfl rfl ⟨by decide, by decide⟩ (Nat.le_of_ble_eq_true rfl) ⟨by decide, by decide⟩ dX9_bindersOf_42 rfl (fun H locs hG => ?_)
        refine lv_if_eq (tgt := 70) hx hb dX9_bindersOf_45 (by decide) (fun c5 => ?_) (fun c5 => ?_)
        · have h := g_pos c5 h
          obtain ⟨v6, ev6⟩ : ∃ y : Int32, y = (a6 + (1 : Int32)) := ⟨_, rfl⟩
          have h := g_let ev6 h
          refine lv_iinc (v := v6) (lv' := [(6, .int v6), (0, gR E 35), (1, .int a1), (2, .int a2), (3, .int a3), (4, .int a4), (5, .int a5)]) hx hb dX9_bindersOf_70 hl (k := 6) rfl (by rw [ev6]; rfl) (by decide) rfl (fun ls hl => ?_)
          refine lv_goto (tgt := 21) hx hb dX9_bindersOf_73 (by decide) ?_
          exact ih S a1 a2 a3 a4 a5 v6 _ _ _ (lv_sub hl [1, 2, 3, 4, 5, 6, 0] rfl) hG h
        · have h := g_neg c5 h
          refine lv_aload_n hx hb dX9_bindersOf_48 rfl (lv_at hl 0 rfl) ?_
          refine lv_iload hx hb dX9_bindersOf_49 (lv_at hl 6 rfl) ?_
          refine lv_iload_n hx hb dX9_bindersOf_51 rfl (lv_at hl 1 rfl) ?_
          refine lv_iload_n hx hb dX9_bindersOf_52 rfl (lv_at hl 2 rfl) ?_
          refine lv_iload_n hx hb dX9_bindersOf_53 rfl (lv_at hl 3 rfl) ?_
          obtain ⟨r8, S9, hm7, h⟩ := g_bd h
          refine g_callVi (As := [.int a6, .int a1, .int a2, .int a3]) hc hG (mX9_weightOf l E hm7) mlX9_119 mcX9_weightOf miX9_weightOf rfl rfl rfl rfl hl.1 rfl rfl ⟨by decide, by decide⟩ (Nat.le_of_ble_eq_true rfl) ⟨by decide, by decide⟩ dX9_bindersOf_54 rfl (fun H locs hG => ?_)
          refine lv_iconst (v := (2 : Int32)) hx hb dX9_bindersOf_57 (by decide) ?_
          refine lv_icmp_lt (tgt := 70) hx hb dX9_bindersOf_58 (by decide) (fun c10 => ?_) (fun c10 => ?_)
          · have h := g_pos c10 h
            obtain ⟨v11, ev11⟩ : ∃ y : Int32, y = (a6 + (1 : Int32)) := ⟨_, rfl⟩
            have h := g_let ev11 h
            refine lv_iinc (v := v11) (lv' := [(6, .int v11), (0, gR E 35), (1, .int a1), (2, .int a2), (3, .int a3), (4, .int a4), (5, .int a5)]) hx hb dX9_bindersOf_70 hl (k := 6) rfl (by rw [ev11]; rfl) (by decide) rfl (fun ls hl => ?_)
            refine lv_goto (tgt := 21) hx hb dX9_bindersOf_73 (by decide) ?_
            exact ih S9 a1 a2 a3 a4 a5 v11 _ _ _ (lv_sub hl [1, 2, 3, 4, 5, 6, 0] rfl) hG h
          · have h := g_neg c10 h
            refine lv_iload hx hb dX9_bindersOf_61 (lv_at hl 4 rfl) ?_
            refine lv_iconst (v := (1 : Int32)) hx hb dX9_bindersOf_63 (by decide) ?_
            refine lv_iload hx hb dX9_bindersOf_64 (lv_at hl 6 rfl) ?_
            refine lv_ishl hx hb dX9_bindersOf_66 ?_
            refine lv_ior hx hb dX9_bindersOf_67 ?_
            refine lv_topi (fun v12 ev12 => ?_)
            have h := g_let ev12 h
            refine lv_istore (lv' := [(4, .int v12), (0, gR E 35), (1, .int a1), (2, .int a2), (3, .int a3), (5, .int a5), (6, .int a6)]) hx hb dX9_bindersOf_68 hl (by decide) rfl (fun ls hl => ?_)
            obtain ⟨v13, ev13⟩ : ∃ y : Int32, y = (a6 + (1 : Int32)) := ⟨_, rfl⟩
            have h := g_let ev13 h
            refine lv_iinc (v := v13) (lv' := [(6, .int v13), (4, .int v12), (0, gR E 35), (1, .int a1), (2, .int a2), (3, .int a3), (5, .int a5)]) hx hb dX9_bindersOf_70 hl (k := 6) rfl (by rw [ev13]; rfl) (by decide) rfl (fun ls hl => ?_)
            refine lv_goto (tgt := 21) hx hb dX9_bindersOf_73 (by decide) ?_
            exact ih S9 a1 a2 a3 v12 a5 v13 _ _ _ (lv_sub hl [2, 3, 4, 5, 1, 6, 0] rfl) hG h
def fX9_bindersOf (S : GS) (a1 : Int32) (a2 : Int32) (a3 : Int32) : Option (Int32 × GS) := glet (0 : Int32) fun v1 => (if gib a1 12 = true then gbv (fX9_alive S (S.1 42 a1.toNatClampNeg)) fun r4 => glet (0 : Int32) fun v5 => (fX9_bindersOf_21 FU S a1 a2 a3 v1 r4 v5) else none)
set_option maxRecDepth 100000 in
set_option maxHeartbeats 4000000 in
theorem wX9_bindersOf_0 {p : Program} {l : Launch} {e : Env} {s : State} {m : MethodId} {args : Array Value} {below : List Frame} {meth : Method} {c : Code} {E : GE} {res : (Int32 × GS)} (hc : GM E p s m args meth c RX9 cX9_bindersOf 7 (some .int)) : ∀ (S : GS) (a1 : Int32) (a2 : Int32) (a3 : Int32) (H : Heap) (locs : List Loc) (ls : Array Slot), lv_has ls 7 [(0, gR E 35), (1, .int a1), (2, .int a2), (3, .int a3)] → GX E S H locs → fX9_bindersOf S a1 a2 a3 = some res → W p l e rmX9_bindersOf s m args below meth c H locs 0 0 (gZ E below args s (some (.int res.1)) res.2) (F0 m 0 ls []) := by
  obtain ⟨hx, hb, -, -, -, hown, hts, -, -⟩ := id hc
  intro S a1 a2 a3 H locs ls hl hG h
  unfold fX9_bindersOf at h
  refine lv_iconst (v := (0 : Int32)) hx hb dX9_bindersOf_0 (by decide) ?_
  refine lv_topi (fun v1 ev1 => ?_)
  have h := g_let ev1 h
  refine lv_istore (lv' := [(4, .int v1), (0, gR E 35), (1, .int a1), (2, .int a2), (3, .int a3)]) hx hb dX9_bindersOf_1 hl (by decide) rfl (fun ls hl => ?_)
  refine lv_aload_n hx hb dX9_bindersOf_3 rfl (lv_at hl 1 rfl) ?_
  refine lv_aload_n hx hb dX9_bindersOf_4 rfl (lv_at hl 1 rfl) ?_
  refine g_getR hc hG 35 36 flX9_40 rfl rfl rfl dX9_bindersOf_5 ?_
  refine g_getR hc hG 36 42 flX9_100 rfl rfl rfl dX9_bindersOf_8 ?_
  refine lv_iload_n hx hb dX9_bindersOf_11 rfl (lv_at hl 2 rfl) ?_
  obtain ⟨hi2, h⟩ := g_if h
  refine g_iald hc hG 42 12 (a1.toNatClampNeg) rfl rfl hi2 rfl dX9_bindersOf_12 ?_
  obtain ⟨r4, hm3, h⟩ := g_bv h
  refine g_callVi (As := [.int (S.1 42 a1.toNatClampNeg)]) hc hG (mX9_alive l E hm3) mlX9_93 mcX9_alive miX9_alive rfl rfl rfl rfl hl.1 rfl rfl ⟨by decide, by decide⟩ (Nat.le_of_ble_eq_true rfl) ⟨by decide, by decide⟩ dX9_bindersOf_13 rfl (fun H locs hG => ?_)
  refine lv_istore (lv' := [(5, .int r4), (4, .int v1), (0, gR E 35), (1, .int a1), (2, .int a2), (3, .int a3)]) hx hb dX9_bindersOf_16 hl (by decide) rfl (fun ls hl => ?_)
  refine lv_iconst (v := (0 : Int32)) hx hb dX9_bindersOf_18 (by decide) ?_
  refine lv_topi (fun v5 ev5 => ?_)
  have h := g_let ev5 h
  refine lv_istore (lv' := [(6, .int v5), (5, .int r4), (4, .int v1), (0, gR E 35), (1, .int a1), (2, .int a2), (3, .int a3)]) hx hb dX9_bindersOf_19 hl (by decide) rfl (fun ls hl => ?_)
  exact wX9_bindersOf_21 hc FU S a1 a2 a3 v1 r4 v5 _ _ _ (lv_sub hl [3, 4, 5, 6, 2, 1, 0] rfl) hG h
theorem mX9_bindersOf (l : Launch) (E : GE) {S : GS} {a1 : Int32} {a2 : Int32} {a3 : Int32} {res : (Int32 × GS)} (h : fX9_bindersOf S a1 a2 a3 = some res) : gMet l E yX9_bindersOf cX9_bindersOf 7 (some .int) rmX9_bindersOf [gR E 35, .int a1, .int a2, .int a3] S (some (.int res.1)) res.2 :=
  g_met (by decide) (Nat.le_of_ble_eq_true rfl) rfl fun p e s m below meth c H ls hc hG hl => wX9_bindersOf_0 hc S a1 a2 a3 H [] ls hl hG h
abbrev rmX9_isLaid : Room := { frames := 0, cells := 0, slots := 0, locals := 0 }
def fX9_isLaid_7 : Nat → GS → Int32 → Int32 → Int32 → Int32 → Option Int32
  | 0, _, _, _, _, _ => none
  | n + 1, S, a1, a2, a3, a4 => (if (S.1 36 14) ≤ a4 then (if (a3 = 0 ∨ a3 = 1) then (some a3) else none) else (if gib a4 120 = true then glet (S.1 46 a4.toNatClampNeg) fun v4 => (if gib v4 120 = true then glet (S.1 20 v4.toNatClampNeg) fun v6 => (if gib (S.1 19 v4.toNatClampNeg) 12 = true then (if (S.1 37 ((S.1 19 v4.toNatClampNeg)).toNatClampNeg) = a1 then (if (S.1 35 5) < v6 then glet (a4 + (1 : Int32)) fun v11 => (fX9_isLaid_7 n S a1 a2 a3 v11) else (if v6 < a2 then glet (a4 + (1 : Int32)) fun v13 => (fX9_isLaid_7 n S a1 a2 a3 v13) else (if (S.1 15 v4.toNatClampNeg) = (6 : Int32) then glet (1 : Int32) fun v17 => glet (a4 + (1 : Int32)) fun v18 => (fX9_isLaid_7 n S a1 v6 v17 v18) else glet (0 : Int32) fun v15 => glet (a4 + (1 : Int32)) fun v16 => (fX9_isLaid_7 n S a1 v6 v15 v16)))) else glet (a4 + (1 : Int32)) fun v9 => (fX9_isLaid_7 n S a1 a2 a3 v9)) else none) else none) else none))
set_option maxRecDepth 100000 in
set_option maxHeartbeats 4000000 in
theorem wX9_isLaid_7 {p : Program} {l : Launch} {e : Env} {s : State} {m : MethodId} {args : Array Value} {below : List Frame} {meth : Method} {c : Code} {E : GE} {res : Int32} (hc : GM E p s m args meth c RX9 cX9_isLaid 7 (some .boolean)) : ∀ (n : Nat), ∀ (S : GS) (a1 : Int32) (a2 : Int32) (a3 : Int32) (a4 : Int32) (H : Heap) (locs : List Loc) (ls : Array Slot), lv_has ls 7 [(0, gR E 35), (1, .int a1), (2, .int a2), (3, .int a3), (4, .int a4)] → GX E S H locs → fX9_isLaid_7 n S a1 a2 a3 a4 = some res → W p l e rmX9_isLaid s m args below meth c H locs 0 0 (gZ E below args s (some (.int res)) S) (F0 m 7 ls []) := by
  obtain ⟨hx, hb, -, -, -, hown, hts, -, -⟩ := id hc
  intro n
  induction n with
  | zero => intro S a1 a2 a3 a4 H locs ls hl hG h; cases h
  | succ n ih =>
    intro S a1 a2 a3 a4 H locs ls hl hG h
    rw [fX9_isLaid_7] at h
    refine lv_iload hx hb dX9_isLaid_7 (lv_at hl 4 rfl) ?_
    refine lv_aload_n hx hb dX9_isLaid_9 rfl (lv_at hl 0 rfl) ?_
    refine g_getR hc hG 35 36 flX9_40 rfl rfl rfl dX9_isLaid_10 ?_
    refine g_getI hc hG 36 flX9_202 rfl rfl dX9_isLaid_13 ?_
    refine lv_icmp_ge (tgt := 110) hx hb dX9_isLaid_16 (by decide) (fun c1 => ?_) (fun c1 => ?_)
    · have h := g_pos c1 h
      refine lv_iload_n hx hb dX9_isLaid_110 rfl (lv_at hl 3 rfl) ?_
      obtain ⟨hz2, h⟩ := g_if h
      exact g_zretp hc hG hz2 dX9_isLaid_111 h
    · have h := g_neg c1 h
      refine lv_aload_n hx hb dX9_isLaid_19 rfl (lv_at hl 0 rfl) ?_
      refine g_getR hc hG 35 36 flX9_40 rfl rfl rfl dX9_isLaid_20 ?_
      refine g_getR hc hG 36 46 flX9_205 rfl rfl rfl dX9_isLaid_23 ?_
      refine lv_iload hx hb dX9_isLaid_26 (lv_at hl 4 rfl) ?_
      obtain ⟨hi3, h⟩ := g_if h
      refine g_iald hc hG 46 120 (a4.toNatClampNeg) rfl rfl hi3 rfl dX9_isLaid_28 ?_
      refine lv_topi (fun v4 ev4 => ?_)
      have h := g_let ev4 h
      refine lv_istore (lv' := [(5, .int v4), (0, gR E 35), (1, .int a1), (2, .int a2), (3, .int a3), (4, .int a4)]) hx hb dX9_isLaid_29 hl (by decide) rfl (fun ls hl => ?_)
      refine lv_aload_n hx hb dX9_isLaid_31 rfl (lv_at hl 1 rfl) ?_
      refine g_getR hc hG 35 14 flX9_39 rfl rfl rfl dX9_isLaid_32 ?_
      refine g_getR hc hG 14 20 flX9_160 rfl rfl rfl dX9_isLaid_35 ?_
      refine lv_iload hx hb dX9_isLaid_38 (lv_at hl 0 rfl) ?_
      obtain ⟨hi5, h⟩ := g_if h
      refine g_iald hc hG 20 120 (v4.toNatClampNeg) rfl rfl hi5 rfl dX9_isLaid_40 ?_
      refine lv_topi (fun v6 ev6 => ?_)
      have h := g_let ev6 h
      refine lv_istore (lv' := [(6, .int v6), (5, .int v4), (0, gR E 35), (1, .int a1), (2, .int a2), (3, .int a3), (4, .int a4)]) hx hb dX9_isLaid_41 hl (by decide) rfl (fun ls hl => ?_)
      refine lv_aload_n hx hb dX9_isLaid_43 rfl (lv_at hl 2 rfl) ?_
      refine g_getR hc hG 35 36 flX9_40 rfl rfl rfl dX9_isLaid_44 ?_
      refine g_getR hc hG 36 37 flX9_154 rfl rfl rfl dX9_isLaid_47 ?_
      refine lv_aload_n hx hb dX9_isLaid_50 rfl (lv_at hl 2 rfl) ?_
      refine g_getR hc hG 35 14 flX9_39 rfl rfl rfl dX9_isLaid_51 ?_
      refine g_getR hc hG 14 19 flX9_157 rfl rfl rfl dX9_isLaid_54 ?_
      refine lv_iload hx hb dX9_isLaid_57 (lv_at hl 1 rfl) ?_
      refine g_iald hc hG 19 120 (v4.toNatClampNeg) rfl rfl hi5 rfl dX9_isLaid_59 ?_
      obtain ⟨hi7, h⟩ := g_if h
      refine g_iald hc hG 37 12 (((S.1 19 v4.toNatClampNeg)).toNatClampNeg) rfl rfl hi7 rfl dX9_isLaid_60 ?_
      refine lv_iload_n hx hb dX9_isLaid_61 rfl (lv_at hl 3 rfl) ?_
      refine lv_icmp_ne (tgt := 104) hx hb dX9_isLaid_62 (by decide) (fun c8 => ?_) (fun c8 => ?_)
      · have h := g_neg c8 h
        obtain ⟨v9, ev9⟩ : ∃ y : Int32, y = (a4 + (1 : Int32)) := ⟨_, rfl⟩
        have h := g_let ev9 h
        refine lv_iinc (v := v9) (lv' := [(4, .int v9), (6, .int v6), (5, .int v4), (0, gR E 35), (1, .int a1), (2, .int a2), (3, .int a3)]) hx hb dX9_isLaid_104 hl (k := 6) rfl (by rw [ev9]; rfl) (by decide) rfl (fun ls hl => ?_)
        refine lv_goto (tgt := 7) hx hb dX9_isLaid_107 (by decide) ?_
        exact ih S a1 a2 a3 v9 _ _ _ (lv_sub hl [3, 4, 5, 6, 0] rfl) hG h
      · have h := g_pos c8 h
        refine lv_iload hx hb dX9_isLaid_65 (lv_at hl 0 rfl) ?_
        refine lv_aload_n hx hb dX9_isLaid_67 rfl (lv_at hl 2 rfl) ?_
        refine g_getI hc hG 35 flX9_81 rfl rfl dX9_isLaid_68 ?_
        refine lv_icmp_gt (tgt := 104) hx hb dX9_isLaid_71 (by decide) (fun c10 => ?_) (fun c10 => ?_)
        · have h := g_pos c10 h
          obtain ⟨v11, ev11⟩ : ∃ y : Int32, y = (a4 + (1 : Int32)) := ⟨_, rfl⟩
          have h := g_let ev11 h
          refine lv_iinc (v := v11) (lv' := [(4, .int v11), (6, .int v6), (5, .int v4), (0, gR E 35), (1, .int a1), (2, .int a2), (3, .int a3)]) hx hb dX9_isLaid_104 hl (k := 6) rfl (by rw [ev11]; rfl) (by decide) rfl (fun ls hl => ?_)
          refine lv_goto (tgt := 7) hx hb dX9_isLaid_107 (by decide) ?_
          exact ih S a1 a2 a3 v11 _ _ _ (lv_sub hl [3, 4, 5, 6, 0] rfl) hG h
        · have h := g_neg c10 h
          refine lv_iload hx hb dX9_isLaid_74 (lv_at hl 0 rfl) ?_
          refine lv_iload_n hx hb dX9_isLaid_76 rfl (lv_at hl 4 rfl) ?_
          refine lv_icmp_lt (tgt := 104) hx hb dX9_isLaid_77 (by decide) (fun c12 => ?_) (fun c12 => ?_)
          · have h := g_pos c12 h
            obtain ⟨v13, ev13⟩ : ∃ y : Int32, y = (a4 + (1 : Int32)) := ⟨_, rfl⟩
            have h := g_let ev13 h
            refine lv_iinc (v := v13) (lv' := [(4, .int v13), (6, .int v6), (5, .int v4), (0, gR E 35), (1, .int a1), (2, .int a2), (3, .int a3)]) hx hb dX9_isLaid_104 hl (k := 6) rfl (by rw [ev13]; rfl) (by decide) rfl (fun ls hl => ?_)
            refine lv_goto (tgt := 7) hx hb dX9_isLaid_107 (by decide) ?_
            exact ih S a1 a2 a3 v13 _ _ _ (lv_sub hl [3, 4, 5, 6, 0] rfl) hG h
          · have h := g_neg c12 h
            refine lv_iload hx hb dX9_isLaid_80 (lv_at hl 0 rfl) ?_
            refine lv_istore_n (lv' := [(2, .int v6), (6, .int v6), (5, .int v4), (0, gR E 35), (1, .int a1), (3, .int a3), (4, .int a4)]) hx hb dX9_isLaid_82 rfl hl (by decide) rfl (fun ls hl => ?_)
            refine lv_aload_n hx hb dX9_isLaid_83 rfl (lv_at hl 3 rfl) ?_
            refine g_getR hc hG 35 14 flX9_39 rfl rfl rfl dX9_isLaid_84 ?_
            refine g_getR hc hG 14 15 flX9_132 rfl rfl rfl dX9_isLaid_87 ?_
            refine lv_iload hx hb dX9_isLaid_90 (lv_at hl 2 rfl) ?_
            refine g_iald hc hG 15 120 (v4.toNatClampNeg) rfl rfl hi5 rfl dX9_isLaid_92 ?_
            refine lv_bipush (v := (6 : Int32)) hx hb dX9_isLaid_93 (by decide) ?_
            refine lv_icmp_ne (tgt := 102) hx hb dX9_isLaid_95 (by decide) (fun c14 => ?_) (fun c14 => ?_)
            · have h := g_neg c14 h
              refine lv_iconst (v := (0 : Int32)) hx hb dX9_isLaid_102 (by decide) ?_
              refine lv_topi (fun v15 ev15 => ?_)
              have h := g_let ev15 h
              refine lv_istore_n (lv' := [(3, .int v15), (2, .int v6), (6, .int v6), (5, .int v4), (0, gR E 35), (1, .int a1), (4, .int a4)]) hx hb dX9_isLaid_103 rfl hl (by decide) rfl (fun ls hl => ?_)
              obtain ⟨v16, ev16⟩ : ∃ y : Int32, y = (a4 + (1 : Int32)) := ⟨_, rfl⟩
              have h := g_let ev16 h
              refine lv_iinc (v := v16) (lv' := [(4, .int v16), (3, .int v15), (2, .int v6), (6, .int v6), (5, .int v4), (0, gR E 35), (1, .int a1)]) hx hb dX9_isLaid_104 hl (k := 6) rfl (by rw [ev16]; rfl) (by decide) rfl (fun ls hl => ?_)
              refine lv_goto (tgt := 7) hx hb dX9_isLaid_107 (by decide) ?_
              exact ih S a1 v6 v15 v16 _ _ _ (lv_sub hl [5, 6, 2, 1, 0] rfl) hG h
            · have h := g_pos c14 h
              refine lv_iconst (v := (1 : Int32)) hx hb dX9_isLaid_98 (by decide) ?_
              refine lv_goto (tgt := 103) hx hb dX9_isLaid_99 (by decide) ?_
              refine lv_topi (fun v17 ev17 => ?_)
              have h := g_let ev17 h
              refine lv_istore_n (lv' := [(3, .int v17), (2, .int v6), (6, .int v6), (5, .int v4), (0, gR E 35), (1, .int a1), (4, .int a4)]) hx hb dX9_isLaid_103 rfl hl (by decide) rfl (fun ls hl => ?_)
              obtain ⟨v18, ev18⟩ : ∃ y : Int32, y = (a4 + (1 : Int32)) := ⟨_, rfl⟩
              have h := g_let ev18 h
              refine lv_iinc (v := v18) (lv' := [(4, .int v18), (3, .int v17), (2, .int v6), (6, .int v6), (5, .int v4), (0, gR E 35), (1, .int a1)]) hx hb dX9_isLaid_104 hl (k := 6) rfl (by rw [ev18]; rfl) (by decide) rfl (fun ls hl => ?_)
              refine lv_goto (tgt := 7) hx hb dX9_isLaid_107 (by decide) ?_
              exact ih S a1 v6 v17 v18 _ _ _ (lv_sub hl [5, 6, 2, 1, 0] rfl) hG h
def fX9_isLaid (S : GS) (a1 : Int32) : Option Int32 := glet (-1 : Int32) fun v1 => glet (0 : Int32) fun v2 => glet (0 : Int32) fun v3 => (fX9_isLaid_7 FU S a1 v1 v2 v3)
set_option maxRecDepth 100000 in
set_option maxHeartbeats 4000000 in
theorem wX9_isLaid_0 {p : Program} {l : Launch} {e : Env} {s : State} {m : MethodId} {args : Array Value} {below : List Frame} {meth : Method} {c : Code} {E : GE} {res : Int32} (hc : GM E p s m args meth c RX9 cX9_isLaid 7 (some .boolean)) : ∀ (S : GS) (a1 : Int32) (H : Heap) (locs : List Loc) (ls : Array Slot), lv_has ls 7 [(0, gR E 35), (1, .int a1)] → GX E S H locs → fX9_isLaid S a1 = some res → W p l e rmX9_isLaid s m args below meth c H locs 0 0 (gZ E below args s (some (.int res)) S) (F0 m 0 ls []) := by
  obtain ⟨hx, hb, -, -, -, hown, hts, -, -⟩ := id hc
  intro S a1 H locs ls hl hG h
  unfold fX9_isLaid at h
  refine lv_iconst (v := (-1 : Int32)) hx hb dX9_isLaid_0 (by decide) ?_
  refine lv_topi (fun v1 ev1 => ?_)
  have h := g_let ev1 h
  refine lv_istore_n (lv' := [(2, .int v1), (0, gR E 35), (1, .int a1)]) hx hb dX9_isLaid_1 rfl hl (by decide) rfl (fun ls hl => ?_)
  refine lv_iconst (v := (0 : Int32)) hx hb dX9_isLaid_2 (by decide) ?_
  refine lv_topi (fun v2 ev2 => ?_)
  have h := g_let ev2 h
  refine lv_istore_n (lv' := [(3, .int v2), (2, .int v1), (0, gR E 35), (1, .int a1)]) hx hb dX9_isLaid_3 rfl hl (by decide) rfl (fun ls hl => ?_)
  refine lv_iconst (v := (0 : Int32)) hx hb dX9_isLaid_4 (by decide) ?_
  refine lv_topi (fun v3 ev3 => ?_)
  have h := g_let ev3 h
  refine lv_istore (lv' := [(4, .int v3), (3, .int v2), (2, .int v1), (0, gR E 35), (1, .int a1)]) hx hb dX9_isLaid_5 hl (by decide) rfl (fun ls hl => ?_)
  exact wX9_isLaid_7 hc FU S a1 v1 v2 v3 _ _ _ (lv_sub hl [3, 4, 2, 1, 0] rfl) hG h
theorem mX9_isLaid (l : Launch) (E : GE) {S : GS} {a1 : Int32} {res : Int32} (h : fX9_isLaid S a1 = some res) : gMet l E yX9_isLaid cX9_isLaid 7 (some .boolean) rmX9_isLaid [gR E 35, .int a1] S (some (.int res)) S :=
  g_met (by decide) (Nat.le_of_ble_eq_true rfl) rfl fun p e s m below meth c H ls hc hG hl => wX9_isLaid_0 hc S a1 H [] ls hl hG h
abbrev rmX9_findMissed : Room := { frames := 5, cells := 0, slots := 0, locals := 125 }
def fX9_findMissed_194 (k124 : GS → Int32 → Int32 → Int32 → Int32 → Int32 → Int32 → Option (Unit × GS)) (S : GS) (t0 : Int32) (t1 : Int32) (a1 : Int32) (a3 : Int32) (a4 : Int32) (a5 : Int32) (a7 : Int32) : Option (Unit × GS) := glet (t0 ||| t1) fun v1 => glet (a7 + (1 : Int32)) fun v2 => (k124 S a1 a3 a4 a5 v1 v2)
set_option maxRecDepth 100000 in
set_option maxHeartbeats 4000000 in
theorem wX9_findMissed_194 {p : Program} {l : Launch} {e : Env} {s : State} {m : MethodId} {args : Array Value} {below : List Frame} {meth : Method} {c : Code} {E : GE} {res : (Unit × GS)} {k124 : GS → Int32 → Int32 → Int32 → Int32 → Int32 → Int32 → Option (Unit × GS)} (hc : GM E p s m args meth c RX9 cX9_findMissed 9 none) (hk124 : ∀ (S : GS) (a1 : Int32) (a3 : Int32) (a4 : Int32) (a5 : Int32) (a6 : Int32) (a7 : Int32) (H : Heap) (locs : List Loc) (ls : Array Slot), lv_has ls 9 [(0, gR E 35), (1, .int a1), (3, .int a3), (4, .int a4), (5, .int a5), (6, .int a6), (7, .int a7)] → GX E S H locs → k124 S a1 a3 a4 a5 a6 a7 = some res → W p l e rmX9_findMissed s m args below meth c H locs 0 0 (gZ E below args s none res.2) (F0 m 124 ls [])) : ∀ (S : GS) (t0 : Int32) (t1 : Int32) (a1 : Int32) (a3 : Int32) (a4 : Int32) (a5 : Int32) (a7 : Int32) (H : Heap) (locs : List Loc) (ls : Array Slot), lv_has ls 9 [(0, gR E 35), (1, .int a1), (3, .int a3), (4, .int a4), (5, .int a5), (7, .int a7)] → GX E S H locs → fX9_findMissed_194 k124 S t0 t1 a1 a3 a4 a5 a7 = some res → W p l e rmX9_findMissed s m args below meth c H locs 0 0 (gZ E below args s none res.2) (F0 m 194 ls [.int t1, .int t0]) := by
  obtain ⟨hx, hb, -, -, -, hown, hts, -, -⟩ := id hc
  intro S t0 t1 a1 a3 a4 a5 a7 H locs ls hl hG h
  unfold fX9_findMissed_194 at h
  refine lv_ior hx hb dX9_findMissed_194 ?_
  refine lv_topi (fun v1 ev1 => ?_)
  have h := g_let ev1 h
  refine lv_istore (lv' := [(6, .int v1), (0, gR E 35), (1, .int a1), (3, .int a3), (4, .int a4), (5, .int a5), (7, .int a7)]) hx hb dX9_findMissed_195 hl (by decide) rfl (fun ls hl => ?_)
  obtain ⟨v2, ev2⟩ : ∃ y : Int32, y = (a7 + (1 : Int32)) := ⟨_, rfl⟩
  have h := g_let ev2 h
  refine lv_iinc (v := v2) (lv' := [(7, .int v2), (6, .int v1), (0, gR E 35), (1, .int a1), (3, .int a3), (4, .int a4), (5, .int a5)]) hx hb dX9_findMissed_197 hl (k := 6) rfl (by rw [ev2]; rfl) (by decide) rfl (fun ls hl => ?_)
  refine lv_goto (tgt := 124) hx hb dX9_findMissed_200 (by decide) ?_
  exact hk124 S a1 a3 a4 a5 v1 v2 _ _ _ (lv_sub hl [2, 3, 4, 5, 6, 1, 0] rfl) hG h
def fX9_findMissed_186 (k124 : GS → Int32 → Int32 → Int32 → Int32 → Int32 → Int32 → Option (Unit × GS)) (S : GS) (t0 : Int32) (a1 : Int32) (a3 : Int32) (a4 : Int32) (a5 : Int32) (a7 : Int32) : Option (Unit × GS) := (fX9_findMissed_194 k124 S t0 ((1 : Int32) <<< (a7 &&& 31)) a1 a3 a4 a5 a7)
set_option maxRecDepth 100000 in
set_option maxHeartbeats 4000000 in
theorem wX9_findMissed_186 {p : Program} {l : Launch} {e : Env} {s : State} {m : MethodId} {args : Array Value} {below : List Frame} {meth : Method} {c : Code} {E : GE} {res : (Unit × GS)} {k124 : GS → Int32 → Int32 → Int32 → Int32 → Int32 → Int32 → Option (Unit × GS)} (hc : GM E p s m args meth c RX9 cX9_findMissed 9 none) (hk124 : ∀ (S : GS) (a1 : Int32) (a3 : Int32) (a4 : Int32) (a5 : Int32) (a6 : Int32) (a7 : Int32) (H : Heap) (locs : List Loc) (ls : Array Slot), lv_has ls 9 [(0, gR E 35), (1, .int a1), (3, .int a3), (4, .int a4), (5, .int a5), (6, .int a6), (7, .int a7)] → GX E S H locs → k124 S a1 a3 a4 a5 a6 a7 = some res → W p l e rmX9_findMissed s m args below meth c H locs 0 0 (gZ E below args s none res.2) (F0 m 124 ls [])) : ∀ (S : GS) (t0 : Int32) (a1 : Int32) (a3 : Int32) (a4 : Int32) (a5 : Int32) (a7 : Int32) (H : Heap) (locs : List Loc) (ls : Array Slot), lv_has ls 9 [(0, gR E 35), (1, .int a1), (3, .int a3), (4, .int a4), (5, .int a5), (7, .int a7)] → GX E S H locs → fX9_findMissed_186 k124 S t0 a1 a3 a4 a5 a7 = some res → W p l e rmX9_findMissed s m args below meth c H locs 0 0 (gZ E below args s none res.2) (F0 m 186 ls [.int t0]) := by
  obtain ⟨hx, hb, -, -, -, hown, hts, -, -⟩ := id hc
  intro S t0 a1 a3 a4 a5 a7 H locs ls hl hG h
  unfold fX9_findMissed_186 at h
  refine lv_iconst (v := (1 : Int32)) hx hb dX9_findMissed_186 (by decide) ?_
  refine lv_iload hx hb dX9_findMissed_187 (lv_at hl 5 rfl) ?_
  refine lv_ishl hx hb dX9_findMissed_189 ?_
  refine lv_goto (tgt := 194) hx hb dX9_findMissed_190 (by decide) ?_
  exact wX9_findMissed_194 hc hk124 S t0 ((1 : Int32) <<< (a7 &&& 31)) a1 a3 a4 a5 a7 _ _ _ (lv_sub hl [0, 1, 2, 3, 4, 5] rfl) hG h
def fX9_findMissed_206 : Nat → GS → Int32 → Int32 → Int32 → Int32 → Option (Unit × GS)
  | 0, _, _, _, _, _ => none
  | n + 1, S, a1, a4, a6, a7 => (if (12 : Int32) ≤ a7 then (some ((), S)) else gbv (fX10_has S a4 a7) fun r3 => (if r3 = 0 then glet (a7 + (1 : Int32)) fun v5 => (fX9_findMissed_206 n S a1 a4 a6 v5) else (if gib a7 12 = true then (if ((S.1 38 a7.toNatClampNeg) &&& a6) = 0 then glet (a7 + (1 : Int32)) fun v8 => (fX9_findMissed_206 n S a1 a4 a6 v8) else (if gib a1 32 = true then glet (gsi S 48 (a1.toNatClampNeg) ((S.1 48 a1.toNatClampNeg) ||| ((1 : Int32) <<< (a7 &&& 31)))) fun S10 => glet (a7 + (1 : Int32)) fun v11 => (fX9_findMissed_206 n S10 a1 a4 a6 v11) else none)) else none)))
set_option maxRecDepth 100000 in
set_option maxHeartbeats 4000000 in
theorem wX9_findMissed_206 {p : Program} {l : Launch} {e : Env} {s : State} {m : MethodId} {args : Array Value} {below : List Frame} {meth : Method} {c : Code} {E : GE} {res : (Unit × GS)} (hc : GM E p s m args meth c RX9 cX9_findMissed 9 none) : ∀ (n : Nat), ∀ (S : GS) (a1 : Int32) (a4 : Int32) (a6 : Int32) (a7 : Int32) (H : Heap) (locs : List Loc) (ls : Array Slot), lv_has ls 9 [(0, gR E 35), (1, .int a1), (4, .int a4), (6, .int a6), (7, .int a7)] → GX E S H locs → fX9_findMissed_206 n S a1 a4 a6 a7 = some res → W p l e rmX9_findMissed s m args below meth c H locs 0 0 (gZ E below args s none res.2) (F0 m 206 ls []) := by
  obtain ⟨hx, hb, -, -, -, hown, hts, -, -⟩ := id hc
  intro n
  induction n with
  | zero => intro S a1 a4 a6 a7 H locs ls hl hG h; cases h
  | succ n ih =>
    intro S a1 a4 a6 a7 H locs ls hl hG h
    rw [fX9_findMissed_206] at h
    refine lv_iload hx hb dX9_findMissed_206 (lv_at hl 4 rfl) ?_
    refine lv_bipush (v := (12 : Int32)) hx hb dX9_findMissed_208 (by decide) ?_
    refine lv_icmp_ge (tgt := 258) hx hb dX9_findMissed_210 (by decide) (fun c1 => ?_) (fun c1 => ?_)
    · have h := g_pos c1 h
      exact g_vret hc hG dX9_findMissed_258 h
    · have h := g_neg c1 h
      refine lv_iload hx hb dX9_findMissed_213 (lv_at hl 2 rfl) ?_
      refine lv_iload hx hb dX9_findMissed_215 (lv_at hl 4 rfl) ?_
      obtain ⟨r3, hm2, h⟩ := g_bv h
      refine g_callSNi (As := [.int a4, .int a7]) hc hG (mX10_has l E hm2) mlX9_77 mcX10_has msX10_has rfl hl.1 rfl rfl ⟨by decide, by decide⟩ (Nat.le_of_ble_eq_true rfl) ⟨by decide, by decide⟩ dX9_findMissed_217 rfl (fun H locs hG => ?_)
      refine lv_if_eq (tgt := 252) hx hb dX9_findMissed_220 (by decide) (fun c4 => ?_) (fun c4 => ?_)
      · have h := g_pos c4 h
        obtain ⟨v5, ev5⟩ : ∃ y : Int32, y = (a7 + (1 : Int32)) := ⟨_, rfl⟩
        have h := g_let ev5 h
        refine lv_iinc (v := v5) (lv' := [(7, .int v5), (0, gR E 35), (1, .int a1), (4, .int a4), (6, .int a6)]) hx hb dX9_findMissed_252 hl (k := 4) rfl (by rw [ev5]; rfl) (by decide) rfl (fun ls hl => ?_)
        refine lv_goto (tgt := 206) hx hb dX9_findMissed_255 (by decide) ?_
        exact ih S a1 a4 a6 v5 _ _ _ (lv_sub hl [1, 2, 3, 4, 0] rfl) hG h
      · have h := g_neg c4 h
        refine lv_aload_n hx hb dX9_findMissed_223 rfl (lv_at hl 0 rfl) ?_
        refine g_getR hc hG 35 36 flX9_40 rfl rfl rfl dX9_findMissed_224 ?_
        refine g_getR hc hG 36 38 flX9_107 rfl rfl rfl dX9_findMissed_227 ?_
        refine lv_iload hx hb dX9_findMissed_230 (lv_at hl 4 rfl) ?_
        obtain ⟨hi6, h⟩ := g_if h
        refine g_iald hc hG 38 12 (a7.toNatClampNeg) rfl rfl hi6 rfl dX9_findMissed_232 ?_
        refine lv_iload hx hb dX9_findMissed_233 (lv_at hl 3 rfl) ?_
        refine lv_iand hx hb dX9_findMissed_235 ?_
        refine lv_if_eq (tgt := 252) hx hb dX9_findMissed_236 (by decide) (fun c7 => ?_) (fun c7 => ?_)
        · have h := g_pos c7 h
          obtain ⟨v8, ev8⟩ : ∃ y : Int32, y = (a7 + (1 : Int32)) := ⟨_, rfl⟩
          have h := g_let ev8 h
          refine lv_iinc (v := v8) (lv' := [(7, .int v8), (0, gR E 35), (1, .int a1), (4, .int a4), (6, .int a6)]) hx hb dX9_findMissed_252 hl (k := 4) rfl (by rw [ev8]; rfl) (by decide) rfl (fun ls hl => ?_)
          refine lv_goto (tgt := 206) hx hb dX9_findMissed_255 (by decide) ?_
          exact ih S a1 a4 a6 v8 _ _ _ (lv_sub hl [1, 2, 3, 4, 0] rfl) hG h
        · have h := g_neg c7 h
          refine lv_aload_n hx hb dX9_findMissed_239 rfl (lv_at hl 0 rfl) ?_
          refine g_getR hc hG 35 48 flX9_9 rfl rfl rfl dX9_findMissed_240 ?_
          refine lv_iload_n hx hb dX9_findMissed_243 rfl (lv_at hl 1 rfl) ?_
          refine lv_dup2_11 hx hb dX9_findMissed_244 rfl rfl ?_
          obtain ⟨hi9, h⟩ := g_if h
          refine g_iald hc hG 48 32 (a1.toNatClampNeg) rfl rfl hi9 rfl dX9_findMissed_245 ?_
          refine lv_iconst (v := (1 : Int32)) hx hb dX9_findMissed_246 (by decide) ?_
          refine lv_iload hx hb dX9_findMissed_247 (lv_at hl 4 rfl) ?_
          refine lv_ishl hx hb dX9_findMissed_249 ?_
          refine lv_ior hx hb dX9_findMissed_250 ?_
          refine g_iast hc hG 48 32 (a1.toNatClampNeg) rfl rfl hi9 rfl dX9_findMissed_251 (fun S10 H locs eS10 hG => ?_)
          have h := g_let eS10 h
          obtain ⟨v11, ev11⟩ : ∃ y : Int32, y = (a7 + (1 : Int32)) := ⟨_, rfl⟩
          have h := g_let ev11 h
          refine lv_iinc (v := v11) (lv' := [(7, .int v11), (0, gR E 35), (1, .int a1), (4, .int a4), (6, .int a6)]) hx hb dX9_findMissed_252 hl (k := 4) rfl (by rw [ev11]; rfl) (by decide) rfl (fun ls hl => ?_)
          refine lv_goto (tgt := 206) hx hb dX9_findMissed_255 (by decide) ?_
          exact ih S10 a1 a4 a6 v11 _ _ _ (lv_sub hl [1, 2, 3, 4, 0] rfl) hG h
def fX9_findMissed_124 : Nat → GS → Int32 → Int32 → Int32 → Int32 → Int32 → Int32 → Option (Unit × GS)
  | 0, _, _, _, _, _, _, _ => none
  | n + 1, S, a1, a3, a4, a5, a6, a7 => (if (12 : Int32) ≤ a7 then glet (0 : Int32) fun v2 => (fX9_findMissed_206 FU S a1 a4 a6 v2) else gbv (fX10_has S a5 a7) fun r4 => (if r4 = 0 then glet (a7 + (1 : Int32)) fun v6 => (fX9_findMissed_124 n S a1 a3 a4 a5 a6 v6) else (if gib a1 32 = true then gbd (fX9_bindersOf S a7 (S.1 8 a1.toNatClampNeg) a3) fun r9 S10 => glet (gsi S10 49 (a1.toNatClampNeg) ((S10.1 49 a1.toNatClampNeg) ||| r9)) fun S11 => (if r9 = 0 then gbv (fX9_isLaid S11 a7) fun r14 => (if r14 = 0 then (fX9_findMissed_194 (fX9_findMissed_124 n) S11 a6 (0 : Int32) a1 a3 a4 a5 a7) else (fX9_findMissed_186 (fX9_findMissed_124 n) S11 a6 a1 a3 a4 a5 a7)) else (fX9_findMissed_186 (fX9_findMissed_124 n) S11 a6 a1 a3 a4 a5 a7)) else none)))
set_option maxRecDepth 100000 in
set_option maxHeartbeats 4000000 in
theorem wX9_findMissed_124 {p : Program} {l : Launch} {e : Env} {s : State} {m : MethodId} {args : Array Value} {below : List Frame} {meth : Method} {c : Code} {E : GE} {res : (Unit × GS)} (hc : GM E p s m args meth c RX9 cX9_findMissed 9 none) : ∀ (n : Nat), ∀ (S : GS) (a1 : Int32) (a3 : Int32) (a4 : Int32) (a5 : Int32) (a6 : Int32) (a7 : Int32) (H : Heap) (locs : List Loc) (ls : Array Slot), lv_has ls 9 [(0, gR E 35), (1, .int a1), (3, .int a3), (4, .int a4), (5, .int a5), (6, .int a6), (7, .int a7)] → GX E S H locs → fX9_findMissed_124 n S a1 a3 a4 a5 a6 a7 = some res → W p l e rmX9_findMissed s m args below meth c H locs 0 0 (gZ E below args s none res.2) (F0 m 124 ls []) := by
  obtain ⟨hx, hb, -, -, -, hown, hts, -, -⟩ := id hc
  intro n
  induction n with
  | zero => intro S a1 a3 a4 a5 a6 a7 H locs ls hl hG h; cases h
  | succ n ih =>
    intro S a1 a3 a4 a5 a6 a7 H locs ls hl hG h
    rw [fX9_findMissed_124] at h
    refine lv_iload hx hb dX9_findMissed_124 (lv_at hl 6 rfl) ?_
    refine lv_bipush (v := (12 : Int32)) hx hb dX9_findMissed_126 (by decide) ?_
    refine lv_icmp_ge (tgt := 203) hx hb dX9_findMissed_128 (by decide) (fun c1 => ?_) (fun c1 => ?_)
    · have h := g_pos c1 h
      refine lv_iconst (v := (0 : Int32)) hx hb dX9_findMissed_203 (by decide) ?_
      refine lv_topi (fun v2 ev2 => ?_)
      have h := g_let ev2 h
      refine lv_istore (lv' := [(7, .int v2), (0, gR E 35), (1, .int a1), (3, .int a3), (4, .int a4), (5, .int a5), (6, .int a6)]) hx hb dX9_findMissed_204 hl (by decide) rfl (fun ls hl => ?_)
      exact wX9_findMissed_206 hc FU S a1 a4 a6 v2 _ _ _ (lv_sub hl [1, 2, 4, 6, 0] rfl) hG h
    · have h := g_neg c1 h
      refine lv_iload hx hb dX9_findMissed_131 (lv_at hl 4 rfl) ?_
      refine lv_iload hx hb dX9_findMissed_133 (lv_at hl 6 rfl) ?_
      obtain ⟨r4, hm3, h⟩ := g_bv h
      refine g_callSNi (As := [.int a5, .int a7]) hc hG (mX10_has l E hm3) mlX9_77 mcX10_has msX10_has rfl hl.1 rfl rfl ⟨by decide, by decide⟩ (Nat.le_of_ble_eq_true rfl) ⟨by decide, by decide⟩ dX9_findMissed_135 rfl (fun H locs hG => ?_)
      refine lv_if_eq (tgt := 197) hx hb dX9_findMissed_138 (by decide) (fun c5 => ?_) (fun c5 => ?_)
      · have h := g_pos c5 h
        obtain ⟨v6, ev6⟩ : ∃ y : Int32, y = (a7 + (1 : Int32)) := ⟨_, rfl⟩
        have h := g_let ev6 h
        refine lv_iinc (v := v6) (lv' := [(7, .int v6), (0, gR E 35), (1, .int a1), (3, .int a3), (4, .int a4), (5, .int a5), (6, .int a6)]) hx hb dX9_findMissed_197 hl (k := 6) rfl (by rw [ev6]; rfl) (by decide) rfl (fun ls hl => ?_)
        refine lv_goto (tgt := 124) hx hb dX9_findMissed_200 (by decide) ?_
        exact ih S a1 a3 a4 a5 a6 v6 _ _ _ (lv_sub hl [1, 2, 3, 4, 5, 6, 0] rfl) hG h
      · have h := g_neg c5 h
        refine lv_aload_n hx hb dX9_findMissed_141 rfl (lv_at hl 0 rfl) ?_
        refine lv_iload hx hb dX9_findMissed_142 (lv_at hl 6 rfl) ?_
        refine lv_aload_n hx hb dX9_findMissed_144 rfl (lv_at hl 0 rfl) ?_
        refine g_getR hc hG 35 7 flX9_29 rfl rfl rfl dX9_findMissed_145 ?_
        refine g_getR hc hG 7 8 flX9_110 rfl rfl rfl dX9_findMissed_148 ?_
        refine lv_iload_n hx hb dX9_findMissed_151 rfl (lv_at hl 1 rfl) ?_
        obtain ⟨hi7, h⟩ := g_if h
        refine g_iald hc hG 8 32 (a1.toNatClampNeg) rfl rfl hi7 rfl dX9_findMissed_152 ?_
        refine lv_iload_n hx hb dX9_findMissed_153 rfl (lv_at hl 2 rfl) ?_
        obtain ⟨r9, S10, hm8, h⟩ := g_bd h
        refine g_callVi (As := [.int a7, .int (S.1 8 a1.toNatClampNeg), .int a3]) hc hG (mX9_bindersOf l E hm8) mlX9_112 mcX9_bindersOf miX9_bindersOf rfl rfl rfl rfl hl.1 rfl rfl ⟨by decide, by decide⟩ (Nat.le_of_ble_eq_true rfl) ⟨by decide, by decide⟩ dX9_findMissed_154 rfl (fun H locs hG => ?_)
        refine lv_istore (lv' := [(8, .int r9), (0, gR E 35), (1, .int a1), (3, .int a3), (4, .int a4), (5, .int a5), (6, .int a6), (7, .int a7)]) hx hb dX9_findMissed_157 hl (by decide) rfl (fun ls hl => ?_)
        refine lv_aload_n hx hb dX9_findMissed_159 rfl (lv_at hl 1 rfl) ?_
        refine g_getR hc hG 35 49 flX9_15 rfl rfl rfl dX9_findMissed_160 ?_
        refine lv_iload_n hx hb dX9_findMissed_163 rfl (lv_at hl 2 rfl) ?_
        refine lv_dup2_11 hx hb dX9_findMissed_164 rfl rfl ?_
        refine g_iald hc hG 49 32 (a1.toNatClampNeg) rfl rfl hi7 rfl dX9_findMissed_165 ?_
        refine lv_iload hx hb dX9_findMissed_166 (lv_at hl 0 rfl) ?_
        refine lv_ior hx hb dX9_findMissed_168 ?_
        refine g_iast hc hG 49 32 (a1.toNatClampNeg) rfl rfl hi7 rfl dX9_findMissed_169 (fun S11 H locs eS11 hG => ?_)
        have h := g_let eS11 h
        refine lv_iload hx hb dX9_findMissed_170 (lv_at hl 6 rfl) ?_
        refine lv_iload hx hb dX9_findMissed_172 (lv_at hl 0 rfl) ?_
        refine lv_if_ne (tgt := 186) hx hb dX9_findMissed_174 (by decide) (fun c12 => ?_) (fun c12 => ?_)
        · have h := g_neg c12 h
          exact wX9_findMissed_186 hc ih S11 a6 a1 a3 a4 a5 a7 _ _ _ (lv_sub hl [1, 2, 3, 4, 5, 7] rfl) hG h
        · have h := g_pos c12 h
          refine lv_aload_n hx hb dX9_findMissed_177 rfl (lv_at hl 1 rfl) ?_
          refine lv_iload hx hb dX9_findMissed_178 (lv_at hl 7 rfl) ?_
          obtain ⟨r14, hm13, h⟩ := g_bv h
          refine g_callVi (As := [.int a7]) hc hG (mX9_isLaid l E hm13) mlX9_116 mcX9_isLaid miX9_isLaid rfl rfl rfl rfl hl.1 rfl rfl ⟨by decide, by decide⟩ (Nat.le_of_ble_eq_true rfl) ⟨by decide, by decide⟩ dX9_findMissed_180 rfl (fun H locs hG => ?_)
          refine lv_if_eq (tgt := 193) hx hb dX9_findMissed_183 (by decide) (fun c15 => ?_) (fun c15 => ?_)
          · have h := g_pos c15 h
            refine lv_iconst (v := (0 : Int32)) hx hb dX9_findMissed_193 (by decide) ?_
            exact wX9_findMissed_194 hc ih S11 a6 (0 : Int32) a1 a3 a4 a5 a7 _ _ _ (lv_sub hl [1, 2, 3, 4, 5, 7] rfl) hG h
          · have h := g_neg c15 h
            exact wX9_findMissed_186 hc ih S11 a6 a1 a3 a4 a5 a7 _ _ _ (lv_sub hl [1, 2, 3, 4, 5, 7] rfl) hG h
def fX9_findMissed_33 : Nat → GS → Int32 → Int32 → Int32 → Int32 → Int32 → Int32 → Option (Unit × GS)
  | 0, _, _, _, _, _, _, _ => none
  | n + 1, S, a1, a2, a3, a4, a5, a6 => (if (12 : Int32) ≤ a6 then (if a5 = 0 then (some ((), S)) else (if gib a1 32 = true then gbd (fX9_goTo S (S.1 9 a1.toNatClampNeg) a2) fun r5 S6 => glet (0 : Int32) fun v7 => glet (0 : Int32) fun v8 => (fX9_findMissed_124 FU S6 a1 a3 a4 a5 v7 v8) else none)) else (if gib a6 12 = true then gbv (fX10_has S (S.1 42 a6.toNatClampNeg) a1) fun r11 => (if r11 = 0 then glet (a6 + (1 : Int32)) fun v13 => (fX9_findMissed_33 n S a1 a2 a3 a4 a5 v13) else gbv (fX9_isHeld S a1 a6 a3) fun r15 => (if r15 = 0 then glet (a6 + (1 : Int32)) fun v17 => (fX9_findMissed_33 n S a1 a2 a3 a4 a5 v17) else glet (a4 ||| ((1 : Int32) <<< (a6 &&& 31))) fun v18 => glet (a5 ||| (S.1 38 a6.toNatClampNeg)) fun v19 => glet (a6 + (1 : Int32)) fun v20 => (fX9_findMissed_33 n S a1 a2 a3 v18 v19 v20))) else none))
set_option maxRecDepth 100000 in
set_option maxHeartbeats 4000000 in
theorem wX9_findMissed_33 {p : Program} {l : Launch} {e : Env} {s : State} {m : MethodId} {args : Array Value} {below : List Frame} {meth : Method} {c : Code} {E : GE} {res : (Unit × GS)} (hc : GM E p s m args meth c RX9 cX9_findMissed 9 none) : ∀ (n : Nat), ∀ (S : GS) (a1 : Int32) (a2 : Int32) (a3 : Int32) (a4 : Int32) (a5 : Int32) (a6 : Int32) (H : Heap) (locs : List Loc) (ls : Array Slot), lv_has ls 9 [(0, gR E 35), (1, .int a1), (2, .int a2), (3, .int a3), (4, .int a4), (5, .int a5), (6, .int a6)] → GX E S H locs → fX9_findMissed_33 n S a1 a2 a3 a4 a5 a6 = some res → W p l e rmX9_findMissed s m args below meth c H locs 0 0 (gZ E below args s none res.2) (F0 m 33 ls []) := by
  obtain ⟨hx, hb, -, -, -, hown, hts, -, -⟩ := id hc
  intro n
  induction n with
  | zero => intro S a1 a2 a3 a4 a5 a6 H locs ls hl hG h; cases h
  | succ n ih =>
    intro S a1 a2 a3 a4 a5 a6 H locs ls hl hG h
    rw [fX9_findMissed_33] at h
    refine lv_iload hx hb dX9_findMissed_33 (lv_at hl 6 rfl) ?_
    refine lv_bipush (v := (12 : Int32)) hx hb dX9_findMissed_35 (by decide) ?_
    refine lv_icmp_ge (tgt := 98) hx hb dX9_findMissed_37 (by decide) (fun c1 => ?_) (fun c1 => ?_)
    · have h := g_pos c1 h
      refine lv_iload hx hb dX9_findMissed_98 (lv_at hl 5 rfl) ?_
      refine lv_if_ne (tgt := 104) hx hb dX9_findMissed_100 (by decide) (fun c2 => ?_) (fun c2 => ?_)
      · have h := g_neg c2 h
        refine lv_aload_n hx hb dX9_findMissed_104 rfl (lv_at hl 0 rfl) ?_
        refine lv_aload_n hx hb dX9_findMissed_105 rfl (lv_at hl 0 rfl) ?_
        refine g_getR hc hG 35 7 flX9_29 rfl rfl rfl dX9_findMissed_106 ?_
        refine g_getR hc hG 7 9 flX9_68 rfl rfl rfl dX9_findMissed_109 ?_
        refine lv_iload_n hx hb dX9_findMissed_112 rfl (lv_at hl 1 rfl) ?_
        obtain ⟨hi3, h⟩ := g_if h
        refine g_iald hc hG 9 32 (a1.toNatClampNeg) rfl rfl hi3 rfl dX9_findMissed_113 ?_
        refine lv_iload_n hx hb dX9_findMissed_114 rfl (lv_at hl 2 rfl) ?_
        obtain ⟨r5, S6, hm4, h⟩ := g_bd h
        refine g_callVv (As := [.int (S.1 9 a1.toNatClampNeg), .int a2]) hc hG (mX9_goTo l E hm4) mlX9_71 mcX9_goTo miX9_goTo rfl rfl rfl rfl hl.1 rfl rfl ⟨by decide, by decide⟩ (Nat.le_of_ble_eq_true rfl) ⟨by decide, by decide⟩ dX9_findMissed_115 rfl (fun H locs hG => ?_)
        refine lv_iconst (v := (0 : Int32)) hx hb dX9_findMissed_118 (by decide) ?_
        refine lv_topi (fun v7 ev7 => ?_)
        have h := g_let ev7 h
        refine lv_istore (lv' := [(6, .int v7), (0, gR E 35), (1, .int a1), (2, .int a2), (3, .int a3), (4, .int a4), (5, .int a5)]) hx hb dX9_findMissed_119 hl (by decide) rfl (fun ls hl => ?_)
        refine lv_iconst (v := (0 : Int32)) hx hb dX9_findMissed_121 (by decide) ?_
        refine lv_topi (fun v8 ev8 => ?_)
        have h := g_let ev8 h
        refine lv_istore (lv' := [(7, .int v8), (6, .int v7), (0, gR E 35), (1, .int a1), (2, .int a2), (3, .int a3), (4, .int a4), (5, .int a5)]) hx hb dX9_findMissed_122 hl (by decide) rfl (fun ls hl => ?_)
        exact wX9_findMissed_124 hc FU S6 a1 a3 a4 a5 v7 v8 _ _ _ (lv_sub hl [2, 3, 5, 6, 7, 1, 0] rfl) hG h
      · have h := g_pos c2 h
        exact g_vret hc hG dX9_findMissed_103 h
    · have h := g_neg c1 h
      refine lv_aload_n hx hb dX9_findMissed_40 rfl (lv_at hl 0 rfl) ?_
      refine g_getR hc hG 35 36 flX9_40 rfl rfl rfl dX9_findMissed_41 ?_
      refine g_getR hc hG 36 42 flX9_100 rfl rfl rfl dX9_findMissed_44 ?_
      refine lv_iload hx hb dX9_findMissed_47 (lv_at hl 6 rfl) ?_
      obtain ⟨hi9, h⟩ := g_if h
      refine g_iald hc hG 42 12 (a6.toNatClampNeg) rfl rfl hi9 rfl dX9_findMissed_49 ?_
      refine lv_iload_n hx hb dX9_findMissed_50 rfl (lv_at hl 1 rfl) ?_
      obtain ⟨r11, hm10, h⟩ := g_bv h
      refine g_callSNi (As := [.int (S.1 42 a6.toNatClampNeg), .int a1]) hc hG (mX10_has l E hm10) mlX9_77 mcX10_has msX10_has rfl hl.1 rfl rfl ⟨by decide, by decide⟩ (Nat.le_of_ble_eq_true rfl) ⟨by decide, by decide⟩ dX9_findMissed_51 rfl (fun H locs hG => ?_)
      refine lv_if_eq (tgt := 92) hx hb dX9_findMissed_54 (by decide) (fun c12 => ?_) (fun c12 => ?_)
      · have h := g_pos c12 h
        obtain ⟨v13, ev13⟩ : ∃ y : Int32, y = (a6 + (1 : Int32)) := ⟨_, rfl⟩
        have h := g_let ev13 h
        refine lv_iinc (v := v13) (lv' := [(6, .int v13), (0, gR E 35), (1, .int a1), (2, .int a2), (3, .int a3), (4, .int a4), (5, .int a5)]) hx hb dX9_findMissed_92 hl (k := 6) rfl (by rw [ev13]; rfl) (by decide) rfl (fun ls hl => ?_)
        refine lv_goto (tgt := 33) hx hb dX9_findMissed_95 (by decide) ?_
        exact ih S a1 a2 a3 a4 a5 v13 _ _ _ (lv_sub hl [1, 2, 3, 4, 5, 6, 0] rfl) hG h
      · have h := g_neg c12 h
        refine lv_aload_n hx hb dX9_findMissed_57 rfl (lv_at hl 0 rfl) ?_
        refine lv_iload_n hx hb dX9_findMissed_58 rfl (lv_at hl 1 rfl) ?_
        refine lv_iload hx hb dX9_findMissed_59 (lv_at hl 6 rfl) ?_
        refine lv_iload_n hx hb dX9_findMissed_61 rfl (lv_at hl 3 rfl) ?_
        obtain ⟨r15, hm14, h⟩ := g_bv h
        refine g_callVi (As := [.int a1, .int a6, .int a3]) hc hG (mX9_isHeld l E hm14) mlX9_103 mcX9_isHeld miX9_isHeld rfl rfl rfl rfl hl.1 rfl rfl ⟨by decide, by decide⟩ (Nat.le_of_ble_eq_true rfl) ⟨by decide, by decide⟩ dX9_findMissed_62 rfl (fun H locs hG => ?_)
        refine lv_if_eq (tgt := 92) hx hb dX9_findMissed_65 (by decide) (fun c16 => ?_) (fun c16 => ?_)
        · have h := g_pos c16 h
          obtain ⟨v17, ev17⟩ : ∃ y : Int32, y = (a6 + (1 : Int32)) := ⟨_, rfl⟩
          have h := g_let ev17 h
          refine lv_iinc (v := v17) (lv' := [(6, .int v17), (0, gR E 35), (1, .int a1), (2, .int a2), (3, .int a3), (4, .int a4), (5, .int a5)]) hx hb dX9_findMissed_92 hl (k := 6) rfl (by rw [ev17]; rfl) (by decide) rfl (fun ls hl => ?_)
          refine lv_goto (tgt := 33) hx hb dX9_findMissed_95 (by decide) ?_
          exact ih S a1 a2 a3 a4 a5 v17 _ _ _ (lv_sub hl [1, 2, 3, 4, 5, 6, 0] rfl) hG h
        · have h := g_neg c16 h
          refine lv_iload hx hb dX9_findMissed_68 (lv_at hl 4 rfl) ?_
          refine lv_iconst (v := (1 : Int32)) hx hb dX9_findMissed_70 (by decide) ?_
          refine lv_iload hx hb dX9_findMissed_71 (lv_at hl 6 rfl) ?_
          refine lv_ishl hx hb dX9_findMissed_73 ?_
          refine lv_ior hx hb dX9_findMissed_74 ?_
          refine lv_topi (fun v18 ev18 => ?_)
          have h := g_let ev18 h
          refine lv_istore (lv' := [(4, .int v18), (0, gR E 35), (1, .int a1), (2, .int a2), (3, .int a3), (5, .int a5), (6, .int a6)]) hx hb dX9_findMissed_75 hl (by decide) rfl (fun ls hl => ?_)
          refine lv_iload hx hb dX9_findMissed_77 (lv_at hl 5 rfl) ?_
          refine lv_aload_n hx hb dX9_findMissed_79 rfl (lv_at hl 1 rfl) ?_
          refine g_getR hc hG 35 36 flX9_40 rfl rfl rfl dX9_findMissed_80 ?_
          refine g_getR hc hG 36 38 flX9_107 rfl rfl rfl dX9_findMissed_83 ?_
          refine lv_iload hx hb dX9_findMissed_86 (lv_at hl 6 rfl) ?_
          refine g_iald hc hG 38 12 (a6.toNatClampNeg) rfl rfl hi9 rfl dX9_findMissed_88 ?_
          refine lv_ior hx hb dX9_findMissed_89 ?_
          refine lv_topi (fun v19 ev19 => ?_)
          have h := g_let ev19 h
          refine lv_istore (lv' := [(5, .int v19), (4, .int v18), (0, gR E 35), (1, .int a1), (2, .int a2), (3, .int a3), (6, .int a6)]) hx hb dX9_findMissed_90 hl (by decide) rfl (fun ls hl => ?_)
          obtain ⟨v20, ev20⟩ : ∃ y : Int32, y = (a6 + (1 : Int32)) := ⟨_, rfl⟩
          have h := g_let ev20 h
          refine lv_iinc (v := v20) (lv' := [(6, .int v20), (5, .int v19), (4, .int v18), (0, gR E 35), (1, .int a1), (2, .int a2), (3, .int a3)]) hx hb dX9_findMissed_92 hl (k := 6) rfl (by rw [ev20]; rfl) (by decide) rfl (fun ls hl => ?_)
          refine lv_goto (tgt := 33) hx hb dX9_findMissed_95 (by decide) ?_
          exact ih S a1 a2 a3 v18 v19 v20 _ _ _ (lv_sub hl [3, 4, 5, 6, 2, 1, 0] rfl) hG h
def fX9_findMissed (S : GS) (a1 : Int32) (a2 : Int32) : Option (Unit × GS) := (if gib a1 32 = true then glet (gsi S 48 (a1.toNatClampNeg) (0 : Int32)) fun S2 => glet (gsi S2 49 (a1.toNatClampNeg) (0 : Int32)) fun S3 => glet (S3.1 11 a1.toNatClampNeg) fun v4 => glet (0 : Int32) fun v5 => glet (0 : Int32) fun v6 => glet (0 : Int32) fun v7 => (fX9_findMissed_33 FU S3 a1 a2 v4 v5 v6 v7) else none)
set_option maxRecDepth 100000 in
set_option maxHeartbeats 4000000 in
theorem wX9_findMissed_0 {p : Program} {l : Launch} {e : Env} {s : State} {m : MethodId} {args : Array Value} {below : List Frame} {meth : Method} {c : Code} {E : GE} {res : (Unit × GS)} (hc : GM E p s m args meth c RX9 cX9_findMissed 9 none) : ∀ (S : GS) (a1 : Int32) (a2 : Int32) (H : Heap) (locs : List Loc) (ls : Array Slot), lv_has ls 9 [(0, gR E 35), (1, .int a1), (2, .int a2)] → GX E S H locs → fX9_findMissed S a1 a2 = some res → W p l e rmX9_findMissed s m args below meth c H locs 0 0 (gZ E below args s none res.2) (F0 m 0 ls []) := by
  obtain ⟨hx, hb, -, -, -, hown, hts, -, -⟩ := id hc
  intro S a1 a2 H locs ls hl hG h
  unfold fX9_findMissed at h
  refine lv_aload_n hx hb dX9_findMissed_0 rfl (lv_at hl 0 rfl) ?_
  refine g_getR hc hG 35 48 flX9_9 rfl rfl rfl dX9_findMissed_1 ?_
  refine lv_iload_n hx hb dX9_findMissed_4 rfl (lv_at hl 1 rfl) ?_
  refine lv_iconst (v := (0 : Int32)) hx hb dX9_findMissed_5 (by decide) ?_
  obtain ⟨hi1, h⟩ := g_if h
  refine g_iast hc hG 48 32 (a1.toNatClampNeg) rfl rfl hi1 rfl dX9_findMissed_6 (fun S2 H locs eS2 hG => ?_)
  have h := g_let eS2 h
  refine lv_aload_n hx hb dX9_findMissed_7 rfl (lv_at hl 0 rfl) ?_
  refine g_getR hc hG 35 49 flX9_15 rfl rfl rfl dX9_findMissed_8 ?_
  refine lv_iload_n hx hb dX9_findMissed_11 rfl (lv_at hl 1 rfl) ?_
  refine lv_iconst (v := (0 : Int32)) hx hb dX9_findMissed_12 (by decide) ?_
  refine g_iast hc hG 49 32 (a1.toNatClampNeg) rfl rfl hi1 rfl dX9_findMissed_13 (fun S3 H locs eS3 hG => ?_)
  have h := g_let eS3 h
  refine lv_aload_n hx hb dX9_findMissed_14 rfl (lv_at hl 0 rfl) ?_
  refine g_getR hc hG 35 7 flX9_29 rfl rfl rfl dX9_findMissed_15 ?_
  refine g_getR hc hG 7 11 flX9_97 rfl rfl rfl dX9_findMissed_18 ?_
  refine lv_iload_n hx hb dX9_findMissed_21 rfl (lv_at hl 1 rfl) ?_
  refine g_iald hc hG 11 32 (a1.toNatClampNeg) rfl rfl hi1 rfl dX9_findMissed_22 ?_
  refine lv_topi (fun v4 ev4 => ?_)
  have h := g_let ev4 h
  refine lv_istore_n (lv' := [(3, .int v4), (0, gR E 35), (1, .int a1), (2, .int a2)]) hx hb dX9_findMissed_23 rfl hl (by decide) rfl (fun ls hl => ?_)
  refine lv_iconst (v := (0 : Int32)) hx hb dX9_findMissed_24 (by decide) ?_
  refine lv_topi (fun v5 ev5 => ?_)
  have h := g_let ev5 h
  refine lv_istore (lv' := [(4, .int v5), (3, .int v4), (0, gR E 35), (1, .int a1), (2, .int a2)]) hx hb dX9_findMissed_25 hl (by decide) rfl (fun ls hl => ?_)
  refine lv_iconst (v := (0 : Int32)) hx hb dX9_findMissed_27 (by decide) ?_
  refine lv_topi (fun v6 ev6 => ?_)
  have h := g_let ev6 h
  refine lv_istore (lv' := [(5, .int v6), (4, .int v5), (3, .int v4), (0, gR E 35), (1, .int a1), (2, .int a2)]) hx hb dX9_findMissed_28 hl (by decide) rfl (fun ls hl => ?_)
  refine lv_iconst (v := (0 : Int32)) hx hb dX9_findMissed_30 (by decide) ?_
  refine lv_topi (fun v7 ev7 => ?_)
  have h := g_let ev7 h
  refine lv_istore (lv' := [(6, .int v7), (5, .int v6), (4, .int v5), (3, .int v4), (0, gR E 35), (1, .int a1), (2, .int a2)]) hx hb dX9_findMissed_31 hl (by decide) rfl (fun ls hl => ?_)
  exact wX9_findMissed_33 hc FU S3 a1 a2 v4 v5 v6 v7 _ _ _ (lv_sub hl [4, 5, 6, 3, 2, 1, 0] rfl) hG h
theorem mX9_findMissed (l : Launch) (E : GE) {S : GS} {a1 : Int32} {a2 : Int32} {res : (Unit × GS)} (h : fX9_findMissed S a1 a2 = some res) : gMet l E yX9_findMissed cX9_findMissed 9 none rmX9_findMissed [gR E 35, .int a1, .int a2] S none res.2 :=
  g_met (by decide) (Nat.le_of_ble_eq_true rfl) rfl fun p e s m below meth c H ls hc hG hl => wX9_findMissed_0 hc S a1 a2 H [] ls hl hG h
abbrev rmX9_see : Room := { frames := 6, cells := 0, slots := 0, locals := 153 }
def fX9_see_20 : Nat → GS → Int32 → Int32 → Option (Unit × GS)
  | 0, _, _, _ => none
  | n + 1, S, a4, a5 => (if (S.1 7 0) ≤ a5 then (some ((), S)) else (if gib a5 32 = true then glet (S.1 13 a5.toNatClampNeg) fun v3 => gbv (fX3_sees S v3) fun r5 => (if r5 = 0 then glet (a5 + (1 : Int32)) fun v7 => (fX9_see_20 n S a4 v7) else gbd (fX9_findMissed S v3 a4) fun r9 S10 => glet (a4 ||| ((1 : Int32) <<< (v3 &&& 31))) fun v11 => glet (a5 + (1 : Int32)) fun v12 => (fX9_see_20 n S10 v11 v12)) else none))
set_option maxRecDepth 100000 in
set_option maxHeartbeats 4000000 in
theorem wX9_see_20 {p : Program} {l : Launch} {e : Env} {s : State} {m : MethodId} {args : Array Value} {below : List Frame} {meth : Method} {c : Code} {E : GE} {res : (Unit × GS)} (hc : GM E p s m args meth c RX9 cX9_see 7 none) : ∀ (n : Nat), ∀ (S : GS) (a4 : Int32) (a5 : Int32) (H : Heap) (locs : List Loc) (ls : Array Slot), lv_has ls 7 [(0, gR E 35), (4, .int a4), (5, .int a5)] → GX E S H locs → fX9_see_20 n S a4 a5 = some res → W p l e rmX9_see s m args below meth c H locs 0 0 (gZ E below args s none res.2) (F0 m 20 ls []) := by
  obtain ⟨hx, hb, -, -, -, hown, hts, -, -⟩ := id hc
  intro n
  induction n with
  | zero => intro S a4 a5 H locs ls hl hG h; cases h
  | succ n ih =>
    intro S a4 a5 H locs ls hl hG h
    rw [fX9_see_20] at h
    refine lv_iload hx hb dX9_see_20 (lv_at hl 2 rfl) ?_
    refine lv_aload_n hx hb dX9_see_22 rfl (lv_at hl 0 rfl) ?_
    refine g_getR hc hG 35 7 flX9_29 rfl rfl rfl dX9_see_23 ?_
    refine g_getI hc hG 7 flX9_52 rfl rfl dX9_see_26 ?_
    refine lv_icmp_ge (tgt := 79) hx hb dX9_see_29 (by decide) (fun c1 => ?_) (fun c1 => ?_)
    · have h := g_pos c1 h
      exact g_vret hc hG dX9_see_79 h
    · have h := g_neg c1 h
      refine lv_aload_n hx hb dX9_see_32 rfl (lv_at hl 0 rfl) ?_
      refine g_getR hc hG 35 7 flX9_29 rfl rfl rfl dX9_see_33 ?_
      refine g_getR hc hG 7 13 flX9_58 rfl rfl rfl dX9_see_36 ?_
      refine lv_iload hx hb dX9_see_39 (lv_at hl 2 rfl) ?_
      obtain ⟨hi2, h⟩ := g_if h
      refine g_iald hc hG 13 32 (a5.toNatClampNeg) rfl rfl hi2 rfl dX9_see_41 ?_
      refine lv_topi (fun v3 ev3 => ?_)
      have h := g_let ev3 h
      refine lv_istore (lv' := [(6, .int v3), (0, gR E 35), (4, .int a4), (5, .int a5)]) hx hb dX9_see_42 hl (by decide) rfl (fun ls hl => ?_)
      refine lv_aload_n hx hb dX9_see_44 rfl (lv_at hl 1 rfl) ?_
      refine g_getR hc hG 35 36 flX9_40 rfl rfl rfl dX9_see_45 ?_
      refine lv_iload hx hb dX9_see_48 (lv_at hl 0 rfl) ?_
      obtain ⟨r5, hm4, h⟩ := g_bv h
      refine g_callVi (As := [.int v3]) hc hG (mX3_sees l E hm4) mlX9_61 mcX3_sees miX3_sees rfl rfl rfl rfl hl.1 rfl rfl ⟨by decide, by decide⟩ (Nat.le_of_ble_eq_true rfl) ⟨by decide, by decide⟩ dX9_see_50 rfl (fun H locs hG => ?_)
      refine lv_if_eq (tgt := 73) hx hb dX9_see_53 (by decide) (fun c6 => ?_) (fun c6 => ?_)
      · have h := g_pos c6 h
        obtain ⟨v7, ev7⟩ : ∃ y : Int32, y = (a5 + (1 : Int32)) := ⟨_, rfl⟩
        have h := g_let ev7 h
        refine lv_iinc (v := v7) (lv' := [(5, .int v7), (6, .int v3), (0, gR E 35), (4, .int a4)]) hx hb dX9_see_73 hl (k := 3) rfl (by rw [ev7]; rfl) (by decide) rfl (fun ls hl => ?_)
        refine lv_goto (tgt := 20) hx hb dX9_see_76 (by decide) ?_
        exact ih S a4 v7 _ _ _ (lv_sub hl [2, 3, 0] rfl) hG h
      · have h := g_neg c6 h
        refine lv_aload_n hx hb dX9_see_56 rfl (lv_at hl 1 rfl) ?_
        refine lv_iload hx hb dX9_see_57 (lv_at hl 0 rfl) ?_
        refine lv_iload hx hb dX9_see_59 (lv_at hl 2 rfl) ?_
        obtain ⟨r9, S10, hm8, h⟩ := g_bd h
        refine g_callVv (As := [.int v3, .int a4]) hc hG (mX9_findMissed l E hm8) mlX9_65 mcX9_findMissed miX9_findMissed rfl rfl rfl rfl hl.1 rfl rfl ⟨by decide, by decide⟩ (Nat.le_of_ble_eq_true rfl) ⟨by decide, by decide⟩ dX9_see_61 rfl (fun H locs hG => ?_)
        refine lv_iload hx hb dX9_see_64 (lv_at hl 2 rfl) ?_
        refine lv_iconst (v := (1 : Int32)) hx hb dX9_see_66 (by decide) ?_
        refine lv_iload hx hb dX9_see_67 (lv_at hl 0 rfl) ?_
        refine lv_ishl hx hb dX9_see_69 ?_
        refine lv_ior hx hb dX9_see_70 ?_
        refine lv_topi (fun v11 ev11 => ?_)
        have h := g_let ev11 h
        refine lv_istore (lv' := [(4, .int v11), (6, .int v3), (0, gR E 35), (5, .int a5)]) hx hb dX9_see_71 hl (by decide) rfl (fun ls hl => ?_)
        obtain ⟨v12, ev12⟩ : ∃ y : Int32, y = (a5 + (1 : Int32)) := ⟨_, rfl⟩
        have h := g_let ev12 h
        refine lv_iinc (v := v12) (lv' := [(5, .int v12), (4, .int v11), (6, .int v3), (0, gR E 35)]) hx hb dX9_see_73 hl (k := 3) rfl (by rw [ev12]; rfl) (by decide) rfl (fun ls hl => ?_)
        refine lv_goto (tgt := 20) hx hb dX9_see_76 (by decide) ?_
        exact ih S10 v11 v12 _ _ _ (lv_sub hl [3, 1, 0] rfl) hG h
def fX9_see (S : GS) (a1 : Nat) (a2 : Int32) (a3 : Int32) : Option (Unit × GS) := glet (gsq S 2 a1) fun S1 => gbd (fX3_see S1 a2 a3) fun r3 S4 => glet (0 : Int32) fun v5 => glet (0 : Int32) fun v6 => (fX9_see_20 FU S4 v5 v6)
set_option maxRecDepth 100000 in
set_option maxHeartbeats 4000000 in
theorem wX9_see_0 {p : Program} {l : Launch} {e : Env} {s : State} {m : MethodId} {args : Array Value} {below : List Frame} {meth : Method} {c : Code} {E : GE} {res : (Unit × GS)} (hc : GM E p s m args meth c RX9 cX9_see 7 none) : ∀ (S : GS) (a1 : Nat) (a2 : Int32) (a3 : Int32) (H : Heap) (locs : List Loc) (ls : Array Slot), lv_has ls 7 [(0, gR E 35), (1, gR E a1), (2, .int a2), (3, .int a3)] → GX E S H locs → fX9_see S a1 a2 a3 = some res → W p l e rmX9_see s m args below meth c H locs 0 0 (gZ E below args s none res.2) (F0 m 0 ls []) := by
  obtain ⟨hx, hb, -, -, -, hown, hts, -, -⟩ := id hc
  intro S a1 a2 a3 H locs ls hl hG h
  unfold fX9_see at h
  refine lv_aload_n hx hb dX9_see_0 rfl (lv_at hl 0 rfl) ?_
  refine lv_aload_n hx hb dX9_see_1 rfl (lv_at hl 1 rfl) ?_
  refine g_putR hc hG 35 2 a1 fpX9_44 (fun _ => rfl) (fun _ => rfl) rfl rfl gq2 dX9_see_2 (fun S1 H locs eS1 hG => ?_)
  have h := g_let eS1 h
  refine lv_aload_n hx hb dX9_see_5 rfl (lv_at hl 0 rfl) ?_
  refine g_getR hc hG 35 36 flX9_40 rfl rfl rfl dX9_see_6 ?_
  refine lv_iload_n hx hb dX9_see_9 rfl (lv_at hl 2 rfl) ?_
  refine lv_iload_n hx hb dX9_see_10 rfl (lv_at hl 3 rfl) ?_
  obtain ⟨r3, S4, hm2, h⟩ := g_bd h
  refine g_callVv (As := [.int a2, .int a3]) hc hG (mX3_see l E hm2) mlX9_48 mcX3_see miX3_see rfl rfl rfl rfl hl.1 rfl rfl ⟨by decide, by decide⟩ (Nat.le_of_ble_eq_true rfl) ⟨by decide, by decide⟩ dX9_see_11 rfl (fun H locs hG => ?_)
  refine lv_iconst (v := (0 : Int32)) hx hb dX9_see_14 (by decide) ?_
  refine lv_topi (fun v5 ev5 => ?_)
  have h := g_let ev5 h
  refine lv_istore (lv' := [(4, .int v5), (0, gR E 35), (1, gR E a1), (2, .int a2), (3, .int a3)]) hx hb dX9_see_15 hl (by decide) rfl (fun ls hl => ?_)
  refine lv_iconst (v := (0 : Int32)) hx hb dX9_see_17 (by decide) ?_
  refine lv_topi (fun v6 ev6 => ?_)
  have h := g_let ev6 h
  refine lv_istore (lv' := [(5, .int v6), (4, .int v5), (0, gR E 35), (1, gR E a1), (2, .int a2), (3, .int a3)]) hx hb dX9_see_18 hl (by decide) rfl (fun ls hl => ?_)
  exact wX9_see_20 hc FU S4 v5 v6 _ _ _ (lv_sub hl [2, 1, 0] rfl) hG h
theorem mX9_see (l : Launch) (E : GE) {S : GS} {a1 : Nat} {a2 : Int32} {a3 : Int32} {res : (Unit × GS)} (h : fX9_see S a1 a2 a3 = some res) : gMet l E yX9_see cX9_see 7 none rmX9_see [gR E 35, gR E a1, .int a2, .int a3] S none res.2 :=
  g_met (by decide) (Nat.le_of_ble_eq_true rfl) rfl fun p e s m below meth c H ls hc hG hl => wX9_see_0 hc S a1 a2 a3 H [] ls hl hG h
abbrev rmX9_goToDay : Room := { frames := 3, cells := 0, slots := 0, locals := 66 }
def fX9_goToDay_4 : Nat → GS → Int32 → Int32 → Int32 → Option (Unit × GS)
  | 0, _, _, _, _ => none
  | n + 1, S, a1, a2, a3 => (if (S.1 7 0) ≤ a3 then gbd (fX9_goTo S a1 a2) fun r3 S4 => (some ((), S4)) else gbv (fX3_sees S a3) fun r6 => (if r6 = 0 then glet (a3 + (1 : Int32)) fun v8 => (fX9_goToDay_4 n S a1 a2 v8) else (if gib a3 32 = true then (if a1 < (S.1 9 a3.toNatClampNeg) then glet (a3 + (1 : Int32)) fun v11 => (fX9_goToDay_4 n S a1 a2 v11) else glet (a2 ||| ((1 : Int32) <<< (a3 &&& 31))) fun v12 => glet (a3 + (1 : Int32)) fun v13 => (fX9_goToDay_4 n S a1 v12 v13)) else none)))
set_option maxRecDepth 100000 in
set_option maxHeartbeats 4000000 in
theorem wX9_goToDay_4 {p : Program} {l : Launch} {e : Env} {s : State} {m : MethodId} {args : Array Value} {below : List Frame} {meth : Method} {c : Code} {E : GE} {res : (Unit × GS)} (hc : GM E p s m args meth c RX9 cX9_goToDay 4 none) : ∀ (n : Nat), ∀ (S : GS) (a1 : Int32) (a2 : Int32) (a3 : Int32) (H : Heap) (locs : List Loc) (ls : Array Slot), lv_has ls 4 [(0, gR E 35), (1, .int a1), (2, .int a2), (3, .int a3)] → GX E S H locs → fX9_goToDay_4 n S a1 a2 a3 = some res → W p l e rmX9_goToDay s m args below meth c H locs 0 0 (gZ E below args s none res.2) (F0 m 4 ls []) := by
  obtain ⟨hx, hb, -, -, -, hown, hts, -, -⟩ := id hc
  intro n
  induction n with
  | zero => intro S a1 a2 a3 H locs ls hl hG h; cases h
  | succ n ih =>
    intro S a1 a2 a3 H locs ls hl hG h
    rw [fX9_goToDay_4] at h
    refine lv_iload_n hx hb dX9_goToDay_4 rfl (lv_at hl 3 rfl) ?_
    refine lv_aload_n hx hb dX9_goToDay_5 rfl (lv_at hl 0 rfl) ?_
    refine g_getR hc hG 35 7 flX9_29 rfl rfl rfl dX9_goToDay_6 ?_
    refine g_getI hc hG 7 flX9_52 rfl rfl dX9_goToDay_9 ?_
    refine lv_icmp_ge (tgt := 51) hx hb dX9_goToDay_12 (by decide) (fun c1 => ?_) (fun c1 => ?_)
    · have h := g_pos c1 h
      refine lv_aload_n hx hb dX9_goToDay_51 rfl (lv_at hl 0 rfl) ?_
      refine lv_iload_n hx hb dX9_goToDay_52 rfl (lv_at hl 1 rfl) ?_
      refine lv_iload_n hx hb dX9_goToDay_53 rfl (lv_at hl 2 rfl) ?_
      obtain ⟨r3, S4, hm2, h⟩ := g_bd h
      refine g_callVv (As := [.int a1, .int a2]) hc hG (mX9_goTo l E hm2) mlX9_71 mcX9_goTo miX9_goTo rfl rfl rfl rfl hl.1 rfl rfl ⟨by decide, by decide⟩ (Nat.le_of_ble_eq_true rfl) ⟨by decide, by decide⟩ dX9_goToDay_54 rfl (fun H locs hG => ?_)
      exact g_vret hc hG dX9_goToDay_57 h
    · have h := g_neg c1 h
      refine lv_aload_n hx hb dX9_goToDay_15 rfl (lv_at hl 0 rfl) ?_
      refine g_getR hc hG 35 36 flX9_40 rfl rfl rfl dX9_goToDay_16 ?_
      refine lv_iload_n hx hb dX9_goToDay_19 rfl (lv_at hl 3 rfl) ?_
      obtain ⟨r6, hm5, h⟩ := g_bv h
      refine g_callVi (As := [.int a3]) hc hG (mX3_sees l E hm5) mlX9_61 mcX3_sees miX3_sees rfl rfl rfl rfl hl.1 rfl rfl ⟨by decide, by decide⟩ (Nat.le_of_ble_eq_true rfl) ⟨by decide, by decide⟩ dX9_goToDay_20 rfl (fun H locs hG => ?_)
      refine lv_if_eq (tgt := 45) hx hb dX9_goToDay_23 (by decide) (fun c7 => ?_) (fun c7 => ?_)
      · have h := g_pos c7 h
        obtain ⟨v8, ev8⟩ : ∃ y : Int32, y = (a3 + (1 : Int32)) := ⟨_, rfl⟩
        have h := g_let ev8 h
        refine lv_iinc (v := v8) (lv' := [(3, .int v8), (0, gR E 35), (1, .int a1), (2, .int a2)]) hx hb dX9_goToDay_45 hl (k := 3) rfl (by rw [ev8]; rfl) (by decide) rfl (fun ls hl => ?_)
        refine lv_goto (tgt := 4) hx hb dX9_goToDay_48 (by decide) ?_
        exact ih S a1 a2 v8 _ _ _ (lv_sub hl [1, 2, 3, 0] rfl) hG h
      · have h := g_neg c7 h
        refine lv_aload_n hx hb dX9_goToDay_26 rfl (lv_at hl 0 rfl) ?_
        refine g_getR hc hG 35 7 flX9_29 rfl rfl rfl dX9_goToDay_27 ?_
        refine g_getR hc hG 7 9 flX9_68 rfl rfl rfl dX9_goToDay_30 ?_
        refine lv_iload_n hx hb dX9_goToDay_33 rfl (lv_at hl 3 rfl) ?_
        obtain ⟨hi9, h⟩ := g_if h
        refine g_iald hc hG 9 32 (a3.toNatClampNeg) rfl rfl hi9 rfl dX9_goToDay_34 ?_
        refine lv_iload_n hx hb dX9_goToDay_35 rfl (lv_at hl 1 rfl) ?_
        refine lv_icmp_gt (tgt := 45) hx hb dX9_goToDay_36 (by decide) (fun c10 => ?_) (fun c10 => ?_)
        · have h := g_pos c10 h
          obtain ⟨v11, ev11⟩ : ∃ y : Int32, y = (a3 + (1 : Int32)) := ⟨_, rfl⟩
          have h := g_let ev11 h
          refine lv_iinc (v := v11) (lv' := [(3, .int v11), (0, gR E 35), (1, .int a1), (2, .int a2)]) hx hb dX9_goToDay_45 hl (k := 3) rfl (by rw [ev11]; rfl) (by decide) rfl (fun ls hl => ?_)
          refine lv_goto (tgt := 4) hx hb dX9_goToDay_48 (by decide) ?_
          exact ih S a1 a2 v11 _ _ _ (lv_sub hl [1, 2, 3, 0] rfl) hG h
        · have h := g_neg c10 h
          refine lv_iload_n hx hb dX9_goToDay_39 rfl (lv_at hl 2 rfl) ?_
          refine lv_iconst (v := (1 : Int32)) hx hb dX9_goToDay_40 (by decide) ?_
          refine lv_iload_n hx hb dX9_goToDay_41 rfl (lv_at hl 3 rfl) ?_
          refine lv_ishl hx hb dX9_goToDay_42 ?_
          refine lv_ior hx hb dX9_goToDay_43 ?_
          refine lv_topi (fun v12 ev12 => ?_)
          have h := g_let ev12 h
          refine lv_istore_n (lv' := [(2, .int v12), (0, gR E 35), (1, .int a1), (3, .int a3)]) hx hb dX9_goToDay_44 rfl hl (by decide) rfl (fun ls hl => ?_)
          obtain ⟨v13, ev13⟩ : ∃ y : Int32, y = (a3 + (1 : Int32)) := ⟨_, rfl⟩
          have h := g_let ev13 h
          refine lv_iinc (v := v13) (lv' := [(3, .int v13), (2, .int v12), (0, gR E 35), (1, .int a1)]) hx hb dX9_goToDay_45 hl (k := 3) rfl (by rw [ev13]; rfl) (by decide) rfl (fun ls hl => ?_)
          refine lv_goto (tgt := 4) hx hb dX9_goToDay_48 (by decide) ?_
          exact ih S a1 v12 v13 _ _ _ (lv_sub hl [2, 3, 1, 0] rfl) hG h
def fX9_goToDay (S : GS) (a1 : Int32) : Option (Unit × GS) := glet (0 : Int32) fun v1 => glet (0 : Int32) fun v2 => (fX9_goToDay_4 FU S a1 v1 v2)
set_option maxRecDepth 100000 in
set_option maxHeartbeats 4000000 in
theorem wX9_goToDay_0 {p : Program} {l : Launch} {e : Env} {s : State} {m : MethodId} {args : Array Value} {below : List Frame} {meth : Method} {c : Code} {E : GE} {res : (Unit × GS)} (hc : GM E p s m args meth c RX9 cX9_goToDay 4 none) : ∀ (S : GS) (a1 : Int32) (H : Heap) (locs : List Loc) (ls : Array Slot), lv_has ls 4 [(0, gR E 35), (1, .int a1)] → GX E S H locs → fX9_goToDay S a1 = some res → W p l e rmX9_goToDay s m args below meth c H locs 0 0 (gZ E below args s none res.2) (F0 m 0 ls []) := by
  obtain ⟨hx, hb, -, -, -, hown, hts, -, -⟩ := id hc
  intro S a1 H locs ls hl hG h
  unfold fX9_goToDay at h
  refine lv_iconst (v := (0 : Int32)) hx hb dX9_goToDay_0 (by decide) ?_
  refine lv_topi (fun v1 ev1 => ?_)
  have h := g_let ev1 h
  refine lv_istore_n (lv' := [(2, .int v1), (0, gR E 35), (1, .int a1)]) hx hb dX9_goToDay_1 rfl hl (by decide) rfl (fun ls hl => ?_)
  refine lv_iconst (v := (0 : Int32)) hx hb dX9_goToDay_2 (by decide) ?_
  refine lv_topi (fun v2 ev2 => ?_)
  have h := g_let ev2 h
  refine lv_istore_n (lv' := [(3, .int v2), (2, .int v1), (0, gR E 35), (1, .int a1)]) hx hb dX9_goToDay_3 rfl hl (by decide) rfl (fun ls hl => ?_)
  exact wX9_goToDay_4 hc FU S a1 v1 v2 _ _ _ (lv_sub hl [2, 3, 1, 0] rfl) hG h
theorem mX9_goToDay (l : Launch) (E : GE) {S : GS} {a1 : Int32} {res : (Unit × GS)} (h : fX9_goToDay S a1 = some res) : gMet l E yX9_goToDay cX9_goToDay 4 none rmX9_goToDay [gR E 35, .int a1] S none res.2 :=
  g_met (by decide) (Nat.le_of_ble_eq_true rfl) rfl fun p e s m below meth c H ls hc hG hl => wX9_goToDay_0 hc S a1 H [] ls hl hG h
abbrev rmX9_standOf : Room := { frames := 4, cells := 0, slots := 0, locals := 99 }
def fX9_standOf_31 : Nat → GS → Int32 → Int32 → Int32 → Int32 → Int32 → Int32 → Option (Int32 × GS)
  | 0, _, _, _, _, _, _, _ => none
  | n + 1, S, a1, a2, a3, a4, a5, a6 => (if (S.1 7 0) ≤ a6 then (some (a4, S)) else (if (3 : Int32) ≤ a4 then (some (a4, S)) else (if a5 = 0 then (some (a4, S)) else gbv (fX10_has S a5 a6) fun r5 => (if r5 = 0 then glet (a6 + (1 : Int32)) fun v7 => (fX9_standOf_31 n S a1 a2 a3 a4 a5 v7) else gbd (fX9_weightOf S a6 a1 a2 a3) fun r9 S10 => glet (if a4 < r9 then r9 else a4) fun v11 => glet (a6 + (1 : Int32)) fun v12 => (fX9_standOf_31 n S10 a1 a2 a3 v11 a5 v12)))))
set_option maxRecDepth 100000 in
set_option maxHeartbeats 4000000 in
theorem wX9_standOf_31 {p : Program} {l : Launch} {e : Env} {s : State} {m : MethodId} {args : Array Value} {below : List Frame} {meth : Method} {c : Code} {E : GE} {res : (Int32 × GS)} (hc : GM E p s m args meth c RX9 cX9_standOf 7 (some .int)) : ∀ (n : Nat), ∀ (S : GS) (a1 : Int32) (a2 : Int32) (a3 : Int32) (a4 : Int32) (a5 : Int32) (a6 : Int32) (H : Heap) (locs : List Loc) (ls : Array Slot), lv_has ls 7 [(0, gR E 35), (1, .int a1), (2, .int a2), (3, .int a3), (4, .int a4), (5, .int a5), (6, .int a6)] → GX E S H locs → fX9_standOf_31 n S a1 a2 a3 a4 a5 a6 = some res → W p l e rmX9_standOf s m args below meth c H locs 0 0 (gZ E below args s (some (.int res.1)) res.2) (F0 m 31 ls []) := by
  obtain ⟨hx, hb, -, -, -, hown, hts, -, -⟩ := id hc
  intro n
  induction n with
  | zero => intro S a1 a2 a3 a4 a5 a6 H locs ls hl hG h; cases h
  | succ n ih =>
    intro S a1 a2 a3 a4 a5 a6 H locs ls hl hG h
    rw [fX9_standOf_31] at h
    refine lv_iload hx hb dX9_standOf_31 (lv_at hl 6 rfl) ?_
    refine lv_aload_n hx hb dX9_standOf_33 rfl (lv_at hl 0 rfl) ?_
    refine g_getR hc hG 35 7 flX9_29 rfl rfl rfl dX9_standOf_34 ?_
    refine g_getI hc hG 7 flX9_52 rfl rfl dX9_standOf_37 ?_
    refine lv_icmp_ge (tgt := 86) hx hb dX9_standOf_40 (by decide) (fun c1 => ?_) (fun c1 => ?_)
    · have h := g_pos c1 h
      refine lv_iload hx hb dX9_standOf_86 (lv_at hl 4 rfl) ?_
      exact g_iret hc hG dX9_standOf_88 h
    · have h := g_neg c1 h
      refine lv_iload hx hb dX9_standOf_43 (lv_at hl 4 rfl) ?_
      refine lv_iconst (v := (3 : Int32)) hx hb dX9_standOf_45 (by decide) ?_
      refine lv_icmp_ge (tgt := 86) hx hb dX9_standOf_46 (by decide) (fun c2 => ?_) (fun c2 => ?_)
      · have h := g_pos c2 h
        refine lv_iload hx hb dX9_standOf_86 (lv_at hl 4 rfl) ?_
        exact g_iret hc hG dX9_standOf_88 h
      · have h := g_neg c2 h
        refine lv_iload hx hb dX9_standOf_49 (lv_at hl 5 rfl) ?_
        refine lv_if_eq (tgt := 86) hx hb dX9_standOf_51 (by decide) (fun c3 => ?_) (fun c3 => ?_)
        · have h := g_pos c3 h
          refine lv_iload hx hb dX9_standOf_86 (lv_at hl 4 rfl) ?_
          exact g_iret hc hG dX9_standOf_88 h
        · have h := g_neg c3 h
          refine lv_iload hx hb dX9_standOf_54 (lv_at hl 5 rfl) ?_
          refine lv_iload hx hb dX9_standOf_56 (lv_at hl 6 rfl) ?_
          obtain ⟨r5, hm4, h⟩ := g_bv h
          refine g_callSNi (As := [.int a5, .int a6]) hc hG (mX10_has l E hm4) mlX9_77 mcX10_has msX10_has rfl hl.1 rfl rfl ⟨by decide, by decide⟩ (Nat.le_of_ble_eq_true rfl) ⟨by decide, by decide⟩ dX9_standOf_58 rfl (fun H locs hG => ?_)
          refine lv_if_eq (tgt := 80) hx hb dX9_standOf_61 (by decide) (fun c6 => ?_) (fun c6 => ?_)
          · have h := g_pos c6 h
            obtain ⟨v7, ev7⟩ : ∃ y : Int32, y = (a6 + (1 : Int32)) := ⟨_, rfl⟩
            have h := g_let ev7 h
            refine lv_iinc (v := v7) (lv' := [(6, .int v7), (0, gR E 35), (1, .int a1), (2, .int a2), (3, .int a3), (4, .int a4), (5, .int a5)]) hx hb dX9_standOf_80 hl (k := 6) rfl (by rw [ev7]; rfl) (by decide) rfl (fun ls hl => ?_)
            refine lv_goto (tgt := 31) hx hb dX9_standOf_83 (by decide) ?_
            exact ih S a1 a2 a3 a4 a5 v7 _ _ _ (lv_sub hl [1, 2, 3, 4, 5, 6, 0] rfl) hG h
          · have h := g_neg c6 h
            refine lv_iload hx hb dX9_standOf_64 (lv_at hl 4 rfl) ?_
            refine lv_aload_n hx hb dX9_standOf_66 rfl (lv_at hl 0 rfl) ?_
            refine lv_iload hx hb dX9_standOf_67 (lv_at hl 6 rfl) ?_
            refine lv_iload_n hx hb dX9_standOf_69 rfl (lv_at hl 1 rfl) ?_
            refine lv_iload_n hx hb dX9_standOf_70 rfl (lv_at hl 2 rfl) ?_
            refine lv_iload_n hx hb dX9_standOf_71 rfl (lv_at hl 3 rfl) ?_
            obtain ⟨r9, S10, hm8, h⟩ := g_bd h
            refine g_callVi (As := [.int a6, .int a1, .int a2, .int a3]) hc hG (mX9_weightOf l E hm8) mlX9_119 mcX9_weightOf miX9_weightOf rfl rfl rfl rfl hl.1 rfl rfl ⟨by decide, by decide⟩ (Nat.le_of_ble_eq_true rfl) ⟨by decide, by decide⟩ dX9_standOf_72 rfl (fun H locs hG => ?_)
            refine g_mmax hc hl.1 (mlX9_224) (by decide) (Nat.le_of_ble_eq_true rfl) ⟨by decide, by decide⟩ dX9_standOf_75 ?_
            refine lv_topi (fun v11 ev11 => ?_)
            have h := g_let ev11 h
            refine lv_istore (lv' := [(4, .int v11), (0, gR E 35), (1, .int a1), (2, .int a2), (3, .int a3), (5, .int a5), (6, .int a6)]) hx hb dX9_standOf_78 hl (by decide) rfl (fun ls hl => ?_)
            obtain ⟨v12, ev12⟩ : ∃ y : Int32, y = (a6 + (1 : Int32)) := ⟨_, rfl⟩
            have h := g_let ev12 h
            refine lv_iinc (v := v12) (lv' := [(6, .int v12), (4, .int v11), (0, gR E 35), (1, .int a1), (2, .int a2), (3, .int a3), (5, .int a5)]) hx hb dX9_standOf_80 hl (k := 6) rfl (by rw [ev12]; rfl) (by decide) rfl (fun ls hl => ?_)
            refine lv_goto (tgt := 31) hx hb dX9_standOf_83 (by decide) ?_
            exact ih S10 a1 a2 a3 v11 a5 v12 _ _ _ (lv_sub hl [2, 3, 4, 5, 1, 6, 0] rfl) hG h
def fX9_standOf (S : GS) (a1 : Int32) (a2 : Int32) (a3 : Int32) : Option (Int32 × GS) := gbv (fX9_isLaid S a1) fun r2 => (if r2 = 0 then glet (0 : Int32) fun v4 => (if gib a1 12 = true then gbv (fX9_alive S (S.1 42 a1.toNatClampNeg)) fun r7 => glet (0 : Int32) fun v8 => (fX9_standOf_31 FU S a1 a2 a3 v4 r7 v8) else none) else (some ((4 : Int32), S)))
set_option maxRecDepth 100000 in
set_option maxHeartbeats 4000000 in
theorem wX9_standOf_0 {p : Program} {l : Launch} {e : Env} {s : State} {m : MethodId} {args : Array Value} {below : List Frame} {meth : Method} {c : Code} {E : GE} {res : (Int32 × GS)} (hc : GM E p s m args meth c RX9 cX9_standOf 7 (some .int)) : ∀ (S : GS) (a1 : Int32) (a2 : Int32) (a3 : Int32) (H : Heap) (locs : List Loc) (ls : Array Slot), lv_has ls 7 [(0, gR E 35), (1, .int a1), (2, .int a2), (3, .int a3)] → GX E S H locs → fX9_standOf S a1 a2 a3 = some res → W p l e rmX9_standOf s m args below meth c H locs 0 0 (gZ E below args s (some (.int res.1)) res.2) (F0 m 0 ls []) := by
  obtain ⟨hx, hb, -, -, -, hown, hts, -, -⟩ := id hc
  intro S a1 a2 a3 H locs ls hl hG h
  unfold fX9_standOf at h
  refine lv_aload_n hx hb dX9_standOf_0 rfl (lv_at hl 0 rfl) ?_
  refine lv_iload_n hx hb dX9_standOf_1 rfl (lv_at hl 1 rfl) ?_
  obtain ⟨r2, hm1, h⟩ := g_bv h
  refine g_callVi (As := [.int a1]) hc hG (mX9_isLaid l E hm1) mlX9_116 mcX9_isLaid miX9_isLaid rfl rfl rfl rfl hl.1 rfl rfl ⟨by decide, by decide⟩ (Nat.le_of_ble_eq_true rfl) ⟨by decide, by decide⟩ dX9_standOf_2 rfl (fun H locs hG => ?_)
  refine lv_if_eq (tgt := 10) hx hb dX9_standOf_5 (by decide) (fun c3 => ?_) (fun c3 => ?_)
  · have h := g_pos c3 h
    refine lv_iconst (v := (0 : Int32)) hx hb dX9_standOf_10 (by decide) ?_
    refine lv_topi (fun v4 ev4 => ?_)
    have h := g_let ev4 h
    refine lv_istore (lv' := [(4, .int v4), (0, gR E 35), (1, .int a1), (2, .int a2), (3, .int a3)]) hx hb dX9_standOf_11 hl (by decide) rfl (fun ls hl => ?_)
    refine lv_aload_n hx hb dX9_standOf_13 rfl (lv_at hl 1 rfl) ?_
    refine lv_aload_n hx hb dX9_standOf_14 rfl (lv_at hl 1 rfl) ?_
    refine g_getR hc hG 35 36 flX9_40 rfl rfl rfl dX9_standOf_15 ?_
    refine g_getR hc hG 36 42 flX9_100 rfl rfl rfl dX9_standOf_18 ?_
    refine lv_iload_n hx hb dX9_standOf_21 rfl (lv_at hl 2 rfl) ?_
    obtain ⟨hi5, h⟩ := g_if h
    refine g_iald hc hG 42 12 (a1.toNatClampNeg) rfl rfl hi5 rfl dX9_standOf_22 ?_
    obtain ⟨r7, hm6, h⟩ := g_bv h
    refine g_callVi (As := [.int (S.1 42 a1.toNatClampNeg)]) hc hG (mX9_alive l E hm6) mlX9_93 mcX9_alive miX9_alive rfl rfl rfl rfl hl.1 rfl rfl ⟨by decide, by decide⟩ (Nat.le_of_ble_eq_true rfl) ⟨by decide, by decide⟩ dX9_standOf_23 rfl (fun H locs hG => ?_)
    refine lv_istore (lv' := [(5, .int r7), (4, .int v4), (0, gR E 35), (1, .int a1), (2, .int a2), (3, .int a3)]) hx hb dX9_standOf_26 hl (by decide) rfl (fun ls hl => ?_)
    refine lv_iconst (v := (0 : Int32)) hx hb dX9_standOf_28 (by decide) ?_
    refine lv_topi (fun v8 ev8 => ?_)
    have h := g_let ev8 h
    refine lv_istore (lv' := [(6, .int v8), (5, .int r7), (4, .int v4), (0, gR E 35), (1, .int a1), (2, .int a2), (3, .int a3)]) hx hb dX9_standOf_29 hl (by decide) rfl (fun ls hl => ?_)
    exact wX9_standOf_31 hc FU S a1 a2 a3 v4 r7 v8 _ _ _ (lv_sub hl [3, 4, 5, 6, 2, 1, 0] rfl) hG h
  · have h := g_neg c3 h
    refine lv_iconst (v := (4 : Int32)) hx hb dX9_standOf_8 (by decide) ?_
    exact g_iret hc hG dX9_standOf_9 h
theorem mX9_standOf (l : Launch) (E : GE) {S : GS} {a1 : Int32} {a2 : Int32} {a3 : Int32} {res : (Int32 × GS)} (h : fX9_standOf S a1 a2 a3 = some res) : gMet l E yX9_standOf cX9_standOf 7 (some .int) rmX9_standOf [gR E 35, .int a1, .int a2, .int a3] S (some (.int res.1)) res.2 :=
  g_met (by decide) (Nat.le_of_ble_eq_true rfl) rfl fun p e s m below meth c H ls hc hG hl => wX9_standOf_0 hc S a1 a2 a3 H [] ls hl hG h
abbrev rmX9_rankOf : Room := { frames := 0, cells := 0, slots := 0, locals := 0 }
def fX9_rankOf (S : GS) (a1 : Int32) : Option Int32 := (if gib a1 32 = true then (if gib (S.1 8 a1.toNatClampNeg) 6 = true then (some (S.1 3 ((S.1 8 a1.toNatClampNeg)).toNatClampNeg)) else none) else none)
set_option maxRecDepth 100000 in
set_option maxHeartbeats 4000000 in
theorem wX9_rankOf_0 {p : Program} {l : Launch} {e : Env} {s : State} {m : MethodId} {args : Array Value} {below : List Frame} {meth : Method} {c : Code} {E : GE} {res : Int32} (hc : GM E p s m args meth c RX9 cX9_rankOf 2 (some .int)) : ∀ (S : GS) (a1 : Int32) (H : Heap) (locs : List Loc) (ls : Array Slot), lv_has ls 2 [(0, gR E 35), (1, .int a1)] → GX E S H locs → fX9_rankOf S a1 = some res → W p l e rmX9_rankOf s m args below meth c H locs 0 0 (gZ E below args s (some (.int res)) S) (F0 m 0 ls []) := by
  obtain ⟨hx, hb, -, -, -, hown, hts, -, -⟩ := id hc
  intro S a1 H locs ls hl hG h
  unfold fX9_rankOf at h
  refine lv_aload_n hx hb dX9_rankOf_0 rfl (lv_at hl 0 rfl) ?_
  refine g_getR hc hG 35 2 flX9_25 rfl rfl rfl dX9_rankOf_1 ?_
  refine g_getR hc hG 2 3 flX9_194 rfl rfl rfl dX9_rankOf_4 ?_
  refine lv_aload_n hx hb dX9_rankOf_7 rfl (lv_at hl 0 rfl) ?_
  refine g_getR hc hG 35 7 flX9_29 rfl rfl rfl dX9_rankOf_8 ?_
  refine g_getR hc hG 7 8 flX9_110 rfl rfl rfl dX9_rankOf_11 ?_
  refine lv_iload_n hx hb dX9_rankOf_14 rfl (lv_at hl 1 rfl) ?_
  obtain ⟨hi1, h⟩ := g_if h
  refine g_iald hc hG 8 32 (a1.toNatClampNeg) rfl rfl hi1 rfl dX9_rankOf_15 ?_
  obtain ⟨hi2, h⟩ := g_if h
  refine g_iald hc hG 3 6 (((S.1 8 a1.toNatClampNeg)).toNatClampNeg) rfl rfl hi2 rfl dX9_rankOf_16 ?_
  exact g_iretp hc hG dX9_rankOf_17 h
theorem mX9_rankOf (l : Launch) (E : GE) {S : GS} {a1 : Int32} {res : Int32} (h : fX9_rankOf S a1 = some res) : gMet l E yX9_rankOf cX9_rankOf 2 (some .int) rmX9_rankOf [gR E 35, .int a1] S (some (.int res)) S :=
  g_met (by decide) (Nat.le_of_ble_eq_true rfl) rfl fun p e s m below meth c H ls hc hG hl => wX9_rankOf_0 hc S a1 H [] ls hl hG h
abbrev rmX9_leaderOf : Room := { frames := 4, cells := 0, slots := 0, locals := 99 }
def fX9_leaderOf_118 (k34 : GS → Int32 → Int32 → Int32 → Int32 → Int32 → Int32 → Int32 → Option (Int32 × GS)) (S : GS) (a1 : Int32) (a2 : Int32) (a3 : Int32) (a6 : Int32) (a7 : Int32) (a8 : Int32) (a9 : Int32) : Option (Int32 × GS) := glet (a7 + (1 : Int32)) fun v1 => (k34 S a1 a2 a3 a8 a9 a6 v1)
set_option maxRecDepth 100000 in
set_option maxHeartbeats 4000000 in
theorem wX9_leaderOf_118 {p : Program} {l : Launch} {e : Env} {s : State} {m : MethodId} {args : Array Value} {below : List Frame} {meth : Method} {c : Code} {E : GE} {res : (Int32 × GS)} {k34 : GS → Int32 → Int32 → Int32 → Int32 → Int32 → Int32 → Int32 → Option (Int32 × GS)} (hc : GM E p s m args meth c RX9 cX9_leaderOf 10 (some .int)) (hk34 : ∀ (S : GS) (a1 : Int32) (a2 : Int32) (a3 : Int32) (a4 : Int32) (a5 : Int32) (a6 : Int32) (a7 : Int32) (H : Heap) (locs : List Loc) (ls : Array Slot), lv_has ls 10 [(0, gR E 35), (1, .int a1), (2, .int a2), (3, .int a3), (4, .int a4), (5, .int a5), (6, .int a6), (7, .int a7)] → GX E S H locs → k34 S a1 a2 a3 a4 a5 a6 a7 = some res → W p l e rmX9_leaderOf s m args below meth c H locs 0 0 (gZ E below args s (some (.int res.1)) res.2) (F0 m 34 ls [])) : ∀ (S : GS) (a1 : Int32) (a2 : Int32) (a3 : Int32) (a6 : Int32) (a7 : Int32) (a8 : Int32) (a9 : Int32) (H : Heap) (locs : List Loc) (ls : Array Slot), lv_has ls 10 [(0, gR E 35), (1, .int a1), (2, .int a2), (3, .int a3), (6, .int a6), (7, .int a7), (8, .int a8), (9, .int a9)] → GX E S H locs → fX9_leaderOf_118 k34 S a1 a2 a3 a6 a7 a8 a9 = some res → W p l e rmX9_leaderOf s m args below meth c H locs 0 0 (gZ E below args s (some (.int res.1)) res.2) (F0 m 118 ls []) := by
  obtain ⟨hx, hb, -, -, -, hown, hts, -, -⟩ := id hc
  intro S a1 a2 a3 a6 a7 a8 a9 H locs ls hl hG h
  unfold fX9_leaderOf_118 at h
  refine lv_iload hx hb dX9_leaderOf_118 (lv_at hl 6 rfl) ?_
  refine lv_istore (lv' := [(4, .int a8), (0, gR E 35), (1, .int a1), (2, .int a2), (3, .int a3), (6, .int a6), (7, .int a7), (8, .int a8), (9, .int a9)]) hx hb dX9_leaderOf_120 hl (by decide) rfl (fun ls hl => ?_)
  refine lv_iload hx hb dX9_leaderOf_122 (lv_at hl 8 rfl) ?_
  refine lv_istore (lv' := [(5, .int a9), (4, .int a8), (0, gR E 35), (1, .int a1), (2, .int a2), (3, .int a3), (6, .int a6), (7, .int a7), (8, .int a8), (9, .int a9)]) hx hb dX9_leaderOf_124 hl (by decide) rfl (fun ls hl => ?_)
  obtain ⟨v1, ev1⟩ : ∃ y : Int32, y = (a7 + (1 : Int32)) := ⟨_, rfl⟩
  have h := g_let ev1 h
  refine lv_iinc (v := v1) (lv' := [(7, .int v1), (5, .int a9), (4, .int a8), (0, gR E 35), (1, .int a1), (2, .int a2), (3, .int a3), (6, .int a6), (8, .int a8), (9, .int a9)]) hx hb dX9_leaderOf_126 hl (k := 7) rfl (by rw [ev1]; rfl) (by decide) rfl (fun ls hl => ?_)
  refine lv_goto (tgt := 34) hx hb dX9_leaderOf_129 (by decide) ?_
  exact hk34 S a1 a2 a3 a8 a9 a6 v1 _ _ _ (lv_sub hl [3, 4, 5, 6, 2, 1, 7, 0] rfl) hG h
def fX9_leaderOf_81 (k34 : GS → Int32 → Int32 → Int32 → Int32 → Int32 → Int32 → Int32 → Option (Int32 × GS)) (S : GS) (t0 : Int32) (a1 : Int32) (a2 : Int32) (a3 : Int32) (a4 : Int32) (a5 : Int32) (a6 : Int32) (a7 : Int32) (a8 : Int32) : Option (Int32 × GS) := (if a5 < t0 then (fX9_leaderOf_118 k34 S a1 a2 a3 a6 a7 a8 t0) else (if t0 = a5 then (if a4 = (-1 : Int32) then glet (a7 + (1 : Int32)) fun v5 => (k34 S a1 a2 a3 a4 a5 a6 v5) else gbv (fX9_rankOf S a8) fun r7 => gbv (fX9_rankOf S a4) fun r9 => (if r7 < r9 then glet (a7 + (1 : Int32)) fun v11 => (k34 S a1 a2 a3 a4 a5 a6 v11) else (fX9_leaderOf_118 k34 S a1 a2 a3 a6 a7 a8 t0))) else glet (a7 + (1 : Int32)) fun v3 => (k34 S a1 a2 a3 a4 a5 a6 v3)))
set_option maxRecDepth 100000 in
set_option maxHeartbeats 4000000 in
theorem wX9_leaderOf_81 {p : Program} {l : Launch} {e : Env} {s : State} {m : MethodId} {args : Array Value} {below : List Frame} {meth : Method} {c : Code} {E : GE} {res : (Int32 × GS)} {k34 : GS → Int32 → Int32 → Int32 → Int32 → Int32 → Int32 → Int32 → Option (Int32 × GS)} (hc : GM E p s m args meth c RX9 cX9_leaderOf 10 (some .int)) (hk34 : ∀ (S : GS) (a1 : Int32) (a2 : Int32) (a3 : Int32) (a4 : Int32) (a5 : Int32) (a6 : Int32) (a7 : Int32) (H : Heap) (locs : List Loc) (ls : Array Slot), lv_has ls 10 [(0, gR E 35), (1, .int a1), (2, .int a2), (3, .int a3), (4, .int a4), (5, .int a5), (6, .int a6), (7, .int a7)] → GX E S H locs → k34 S a1 a2 a3 a4 a5 a6 a7 = some res → W p l e rmX9_leaderOf s m args below meth c H locs 0 0 (gZ E below args s (some (.int res.1)) res.2) (F0 m 34 ls [])) : ∀ (S : GS) (t0 : Int32) (a1 : Int32) (a2 : Int32) (a3 : Int32) (a4 : Int32) (a5 : Int32) (a6 : Int32) (a7 : Int32) (a8 : Int32) (H : Heap) (locs : List Loc) (ls : Array Slot), lv_has ls 10 [(0, gR E 35), (1, .int a1), (2, .int a2), (3, .int a3), (4, .int a4), (5, .int a5), (6, .int a6), (7, .int a7), (8, .int a8)] → GX E S H locs → fX9_leaderOf_81 k34 S t0 a1 a2 a3 a4 a5 a6 a7 a8 = some res → W p l e rmX9_leaderOf s m args below meth c H locs 0 0 (gZ E below args s (some (.int res.1)) res.2) (F0 m 81 ls [.int t0]) := by
  obtain ⟨hx, hb, -, -, -, hown, hts, -, -⟩ := id hc
  intro S t0 a1 a2 a3 a4 a5 a6 a7 a8 H locs ls hl hG h
  unfold fX9_leaderOf_81 at h
  refine lv_istore (lv' := [(9, .int t0), (0, gR E 35), (1, .int a1), (2, .int a2), (3, .int a3), (4, .int a4), (5, .int a5), (6, .int a6), (7, .int a7), (8, .int a8)]) hx hb dX9_leaderOf_81 hl (by decide) rfl (fun ls hl => ?_)
  refine lv_iload hx hb dX9_leaderOf_83 (lv_at hl 0 rfl) ?_
  refine lv_iload hx hb dX9_leaderOf_85 (lv_at hl 6 rfl) ?_
  refine lv_icmp_gt (tgt := 118) hx hb dX9_leaderOf_87 (by decide) (fun c1 => ?_) (fun c1 => ?_)
  · have h := g_pos c1 h
    exact wX9_leaderOf_118 hc hk34 S a1 a2 a3 a6 a7 a8 t0 _ _ _ (lv_sub hl [1, 2, 3, 4, 7, 8, 9, 0] rfl) hG h
  · have h := g_neg c1 h
    refine lv_iload hx hb dX9_leaderOf_90 (lv_at hl 0 rfl) ?_
    refine lv_iload hx hb dX9_leaderOf_92 (lv_at hl 6 rfl) ?_
    refine lv_icmp_ne (tgt := 126) hx hb dX9_leaderOf_94 (by decide) (fun c2 => ?_) (fun c2 => ?_)
    · have h := g_neg c2 h
      obtain ⟨v3, ev3⟩ : ∃ y : Int32, y = (a7 + (1 : Int32)) := ⟨_, rfl⟩
      have h := g_let ev3 h
      refine lv_iinc (v := v3) (lv' := [(7, .int v3), (9, .int t0), (0, gR E 35), (1, .int a1), (2, .int a2), (3, .int a3), (4, .int a4), (5, .int a5), (6, .int a6), (8, .int a8)]) hx hb dX9_leaderOf_126 hl (k := 8) rfl (by rw [ev3]; rfl) (by decide) rfl (fun ls hl => ?_)
      refine lv_goto (tgt := 34) hx hb dX9_leaderOf_129 (by decide) ?_
      exact hk34 S a1 a2 a3 a4 a5 a6 v3 _ _ _ (lv_sub hl [2, 3, 4, 5, 6, 7, 8, 0] rfl) hG h
    · have h := g_pos c2 h
      refine lv_iload hx hb dX9_leaderOf_97 (lv_at hl 5 rfl) ?_
      refine lv_iconst (v := (-1 : Int32)) hx hb dX9_leaderOf_99 (by decide) ?_
      refine lv_icmp_eq (tgt := 126) hx hb dX9_leaderOf_100 (by decide) (fun c4 => ?_) (fun c4 => ?_)
      · have h := g_pos c4 h
        obtain ⟨v5, ev5⟩ : ∃ y : Int32, y = (a7 + (1 : Int32)) := ⟨_, rfl⟩
        have h := g_let ev5 h
        refine lv_iinc (v := v5) (lv' := [(7, .int v5), (9, .int t0), (0, gR E 35), (1, .int a1), (2, .int a2), (3, .int a3), (4, .int a4), (5, .int a5), (6, .int a6), (8, .int a8)]) hx hb dX9_leaderOf_126 hl (k := 8) rfl (by rw [ev5]; rfl) (by decide) rfl (fun ls hl => ?_)
        refine lv_goto (tgt := 34) hx hb dX9_leaderOf_129 (by decide) ?_
        exact hk34 S a1 a2 a3 a4 a5 a6 v5 _ _ _ (lv_sub hl [2, 3, 4, 5, 6, 7, 8, 0] rfl) hG h
      · have h := g_neg c4 h
        refine lv_aload_n hx hb dX9_leaderOf_103 rfl (lv_at hl 1 rfl) ?_
        refine lv_iload hx hb dX9_leaderOf_104 (lv_at hl 9 rfl) ?_
        obtain ⟨r7, hm6, h⟩ := g_bv h
        refine g_callVi (As := [.int a8]) hc hG (mX9_rankOf l E hm6) mlX9_229 mcX9_rankOf miX9_rankOf rfl rfl rfl rfl hl.1 rfl rfl ⟨by decide, by decide⟩ (Nat.le_of_ble_eq_true rfl) ⟨by decide, by decide⟩ dX9_leaderOf_106 rfl (fun H locs hG => ?_)
        refine lv_aload_n hx hb dX9_leaderOf_109 rfl (lv_at hl 1 rfl) ?_
        refine lv_iload hx hb dX9_leaderOf_110 (lv_at hl 5 rfl) ?_
        obtain ⟨r9, hm8, h⟩ := g_bv h
        refine g_callVi (As := [.int a4]) hc hG (mX9_rankOf l E hm8) mlX9_229 mcX9_rankOf miX9_rankOf rfl rfl rfl rfl hl.1 rfl rfl ⟨by decide, by decide⟩ (Nat.le_of_ble_eq_true rfl) ⟨by decide, by decide⟩ dX9_leaderOf_112 rfl (fun H locs hG => ?_)
        refine lv_icmp_lt (tgt := 126) hx hb dX9_leaderOf_115 (by decide) (fun c10 => ?_) (fun c10 => ?_)
        · have h := g_pos c10 h
          obtain ⟨v11, ev11⟩ : ∃ y : Int32, y = (a7 + (1 : Int32)) := ⟨_, rfl⟩
          have h := g_let ev11 h
          refine lv_iinc (v := v11) (lv' := [(7, .int v11), (9, .int t0), (0, gR E 35), (1, .int a1), (2, .int a2), (3, .int a3), (4, .int a4), (5, .int a5), (6, .int a6), (8, .int a8)]) hx hb dX9_leaderOf_126 hl (k := 8) rfl (by rw [ev11]; rfl) (by decide) rfl (fun ls hl => ?_)
          refine lv_goto (tgt := 34) hx hb dX9_leaderOf_129 (by decide) ?_
          exact hk34 S a1 a2 a3 a4 a5 a6 v11 _ _ _ (lv_sub hl [2, 3, 4, 5, 6, 7, 8, 0] rfl) hG h
        · have h := g_neg c10 h
          exact wX9_leaderOf_118 hc hk34 S a1 a2 a3 a6 a7 a8 t0 _ _ _ (lv_sub hl [1, 2, 3, 4, 7, 8, 9, 0] rfl) hG h
def fX9_leaderOf_34 : Nat → GS → Int32 → Int32 → Int32 → Int32 → Int32 → Int32 → Int32 → Option (Int32 × GS)
  | 0, _, _, _, _, _, _, _, _ => none
  | n + 1, S, a1, a2, a3, a4, a5, a6, a7 => (if (S.1 7 0) ≤ a7 then (some (a4, S)) else (if gib a7 32 = true then glet (S.1 13 a7.toNatClampNeg) fun v3 => gbv (fX10_has S a6 v3) fun r5 => (if r5 = 0 then (fX9_leaderOf_81 (fX9_leaderOf_34 n) S (0 : Int32) a1 a2 a3 a4 a5 a6 a7 v3) else gbd (fX9_weightOf S v3 a1 a2 a3) fun r8 S9 => (fX9_leaderOf_81 (fX9_leaderOf_34 n) S9 r8 a1 a2 a3 a4 a5 a6 a7 v3)) else none))
set_option maxRecDepth 100000 in
set_option maxHeartbeats 4000000 in
theorem wX9_leaderOf_34 {p : Program} {l : Launch} {e : Env} {s : State} {m : MethodId} {args : Array Value} {below : List Frame} {meth : Method} {c : Code} {E : GE} {res : (Int32 × GS)} (hc : GM E p s m args meth c RX9 cX9_leaderOf 10 (some .int)) : ∀ (n : Nat), ∀ (S : GS) (a1 : Int32) (a2 : Int32) (a3 : Int32) (a4 : Int32) (a5 : Int32) (a6 : Int32) (a7 : Int32) (H : Heap) (locs : List Loc) (ls : Array Slot), lv_has ls 10 [(0, gR E 35), (1, .int a1), (2, .int a2), (3, .int a3), (4, .int a4), (5, .int a5), (6, .int a6), (7, .int a7)] → GX E S H locs → fX9_leaderOf_34 n S a1 a2 a3 a4 a5 a6 a7 = some res → W p l e rmX9_leaderOf s m args below meth c H locs 0 0 (gZ E below args s (some (.int res.1)) res.2) (F0 m 34 ls []) := by
  obtain ⟨hx, hb, -, -, -, hown, hts, -, -⟩ := id hc
  intro n
  induction n with
  | zero => intro S a1 a2 a3 a4 a5 a6 a7 H locs ls hl hG h; cases h
  | succ n ih =>
    intro S a1 a2 a3 a4 a5 a6 a7 H locs ls hl hG h
    rw [fX9_leaderOf_34] at h
    refine lv_iload hx hb dX9_leaderOf_34 (lv_at hl 7 rfl) ?_
    refine lv_aload_n hx hb dX9_leaderOf_36 rfl (lv_at hl 0 rfl) ?_
    refine g_getR hc hG 35 7 flX9_29 rfl rfl rfl dX9_leaderOf_37 ?_
    refine g_getI hc hG 7 flX9_52 rfl rfl dX9_leaderOf_40 ?_
    refine lv_icmp_ge (tgt := 132) hx hb dX9_leaderOf_43 (by decide) (fun c1 => ?_) (fun c1 => ?_)
    · have h := g_pos c1 h
      refine lv_iload hx hb dX9_leaderOf_132 (lv_at hl 4 rfl) ?_
      exact g_iret hc hG dX9_leaderOf_134 h
    · have h := g_neg c1 h
      refine lv_aload_n hx hb dX9_leaderOf_46 rfl (lv_at hl 0 rfl) ?_
      refine g_getR hc hG 35 7 flX9_29 rfl rfl rfl dX9_leaderOf_47 ?_
      refine g_getR hc hG 7 13 flX9_58 rfl rfl rfl dX9_leaderOf_50 ?_
      refine lv_iload hx hb dX9_leaderOf_53 (lv_at hl 7 rfl) ?_
      obtain ⟨hi2, h⟩ := g_if h
      refine g_iald hc hG 13 32 (a7.toNatClampNeg) rfl rfl hi2 rfl dX9_leaderOf_55 ?_
      refine lv_topi (fun v3 ev3 => ?_)
      have h := g_let ev3 h
      refine lv_istore (lv' := [(8, .int v3), (0, gR E 35), (1, .int a1), (2, .int a2), (3, .int a3), (4, .int a4), (5, .int a5), (6, .int a6), (7, .int a7)]) hx hb dX9_leaderOf_56 hl (by decide) rfl (fun ls hl => ?_)
      refine lv_iload hx hb dX9_leaderOf_58 (lv_at hl 7 rfl) ?_
      refine lv_iload hx hb dX9_leaderOf_60 (lv_at hl 0 rfl) ?_
      obtain ⟨r5, hm4, h⟩ := g_bv h
      refine g_callSNi (As := [.int a6, .int v3]) hc hG (mX10_has l E hm4) mlX9_77 mcX10_has msX10_has rfl hl.1 rfl rfl ⟨by decide, by decide⟩ (Nat.le_of_ble_eq_true rfl) ⟨by decide, by decide⟩ dX9_leaderOf_62 rfl (fun H locs hG => ?_)
      refine lv_if_eq (tgt := 80) hx hb dX9_leaderOf_65 (by decide) (fun c6 => ?_) (fun c6 => ?_)
      · have h := g_pos c6 h
        refine lv_iconst (v := (0 : Int32)) hx hb dX9_leaderOf_80 (by decide) ?_
        exact wX9_leaderOf_81 hc ih S (0 : Int32) a1 a2 a3 a4 a5 a6 a7 v3 _ _ _ (lv_sub hl [1, 2, 3, 4, 5, 6, 7, 8, 0] rfl) hG h
      · have h := g_neg c6 h
        refine lv_aload_n hx hb dX9_leaderOf_68 rfl (lv_at hl 1 rfl) ?_
        refine lv_iload hx hb dX9_leaderOf_69 (lv_at hl 0 rfl) ?_
        refine lv_iload_n hx hb dX9_leaderOf_71 rfl (lv_at hl 2 rfl) ?_
        refine lv_iload_n hx hb dX9_leaderOf_72 rfl (lv_at hl 3 rfl) ?_
        refine lv_iload_n hx hb dX9_leaderOf_73 rfl (lv_at hl 4 rfl) ?_
        obtain ⟨r8, S9, hm7, h⟩ := g_bd h
        refine g_callVi (As := [.int v3, .int a1, .int a2, .int a3]) hc hG (mX9_weightOf l E hm7) mlX9_119 mcX9_weightOf miX9_weightOf rfl rfl rfl rfl hl.1 rfl rfl ⟨by decide, by decide⟩ (Nat.le_of_ble_eq_true rfl) ⟨by decide, by decide⟩ dX9_leaderOf_74 rfl (fun H locs hG => ?_)
        refine lv_goto (tgt := 81) hx hb dX9_leaderOf_77 (by decide) ?_
        exact wX9_leaderOf_81 hc ih S9 r8 a1 a2 a3 a4 a5 a6 a7 v3 _ _ _ (lv_sub hl [1, 2, 3, 4, 5, 6, 7, 8, 0] rfl) hG h
def fX9_leaderOf (S : GS) (a1 : Int32) (a2 : Int32) (a3 : Int32) : Option (Int32 × GS) := gbv (fX9_isLaid S a1) fun r2 => (if r2 = 0 then glet (-1 : Int32) fun v4 => glet (0 : Int32) fun v5 => (if gib a1 12 = true then gbv (fX9_alive S (S.1 42 a1.toNatClampNeg)) fun r8 => glet (0 : Int32) fun v9 => (fX9_leaderOf_34 FU S a1 a2 a3 v4 v5 r8 v9) else none) else (some ((-1 : Int32), S)))
set_option maxRecDepth 100000 in
set_option maxHeartbeats 4000000 in
theorem wX9_leaderOf_0 {p : Program} {l : Launch} {e : Env} {s : State} {m : MethodId} {args : Array Value} {below : List Frame} {meth : Method} {c : Code} {E : GE} {res : (Int32 × GS)} (hc : GM E p s m args meth c RX9 cX9_leaderOf 10 (some .int)) : ∀ (S : GS) (a1 : Int32) (a2 : Int32) (a3 : Int32) (H : Heap) (locs : List Loc) (ls : Array Slot), lv_has ls 10 [(0, gR E 35), (1, .int a1), (2, .int a2), (3, .int a3)] → GX E S H locs → fX9_leaderOf S a1 a2 a3 = some res → W p l e rmX9_leaderOf s m args below meth c H locs 0 0 (gZ E below args s (some (.int res.1)) res.2) (F0 m 0 ls []) := by
  obtain ⟨hx, hb, -, -, -, hown, hts, -, -⟩ := id hc
  intro S a1 a2 a3 H locs ls hl hG h
  unfold fX9_leaderOf at h
  refine lv_aload_n hx hb dX9_leaderOf_0 rfl (lv_at hl 0 rfl) ?_
  refine lv_iload_n hx hb dX9_leaderOf_1 rfl (lv_at hl 1 rfl) ?_
  obtain ⟨r2, hm1, h⟩ := g_bv h
  refine g_callVi (As := [.int a1]) hc hG (mX9_isLaid l E hm1) mlX9_116 mcX9_isLaid miX9_isLaid rfl rfl rfl rfl hl.1 rfl rfl ⟨by decide, by decide⟩ (Nat.le_of_ble_eq_true rfl) ⟨by decide, by decide⟩ dX9_leaderOf_2 rfl (fun H locs hG => ?_)
  refine lv_if_eq (tgt := 10) hx hb dX9_leaderOf_5 (by decide) (fun c3 => ?_) (fun c3 => ?_)
  · have h := g_pos c3 h
    refine lv_iconst (v := (-1 : Int32)) hx hb dX9_leaderOf_10 (by decide) ?_
    refine lv_topi (fun v4 ev4 => ?_)
    have h := g_let ev4 h
    refine lv_istore (lv' := [(4, .int v4), (0, gR E 35), (1, .int a1), (2, .int a2), (3, .int a3)]) hx hb dX9_leaderOf_11 hl (by decide) rfl (fun ls hl => ?_)
    refine lv_iconst (v := (0 : Int32)) hx hb dX9_leaderOf_13 (by decide) ?_
    refine lv_topi (fun v5 ev5 => ?_)
    have h := g_let ev5 h
    refine lv_istore (lv' := [(5, .int v5), (4, .int v4), (0, gR E 35), (1, .int a1), (2, .int a2), (3, .int a3)]) hx hb dX9_leaderOf_14 hl (by decide) rfl (fun ls hl => ?_)
    refine lv_aload_n hx hb dX9_leaderOf_16 rfl (lv_at hl 2 rfl) ?_
    refine lv_aload_n hx hb dX9_leaderOf_17 rfl (lv_at hl 2 rfl) ?_
    refine g_getR hc hG 35 36 flX9_40 rfl rfl rfl dX9_leaderOf_18 ?_
    refine g_getR hc hG 36 42 flX9_100 rfl rfl rfl dX9_leaderOf_21 ?_
    refine lv_iload_n hx hb dX9_leaderOf_24 rfl (lv_at hl 3 rfl) ?_
    obtain ⟨hi6, h⟩ := g_if h
    refine g_iald hc hG 42 12 (a1.toNatClampNeg) rfl rfl hi6 rfl dX9_leaderOf_25 ?_
    obtain ⟨r8, hm7, h⟩ := g_bv h
    refine g_callVi (As := [.int (S.1 42 a1.toNatClampNeg)]) hc hG (mX9_alive l E hm7) mlX9_93 mcX9_alive miX9_alive rfl rfl rfl rfl hl.1 rfl rfl ⟨by decide, by decide⟩ (Nat.le_of_ble_eq_true rfl) ⟨by decide, by decide⟩ dX9_leaderOf_26 rfl (fun H locs hG => ?_)
    refine lv_istore (lv' := [(6, .int r8), (5, .int v5), (4, .int v4), (0, gR E 35), (1, .int a1), (2, .int a2), (3, .int a3)]) hx hb dX9_leaderOf_29 hl (by decide) rfl (fun ls hl => ?_)
    refine lv_iconst (v := (0 : Int32)) hx hb dX9_leaderOf_31 (by decide) ?_
    refine lv_topi (fun v9 ev9 => ?_)
    have h := g_let ev9 h
    refine lv_istore (lv' := [(7, .int v9), (6, .int r8), (5, .int v5), (4, .int v4), (0, gR E 35), (1, .int a1), (2, .int a2), (3, .int a3)]) hx hb dX9_leaderOf_32 hl (by decide) rfl (fun ls hl => ?_)
    exact wX9_leaderOf_34 hc FU S a1 a2 a3 v4 v5 r8 v9 _ _ _ (lv_sub hl [4, 5, 6, 7, 3, 2, 1, 0] rfl) hG h
  · have h := g_neg c3 h
    refine lv_iconst (v := (-1 : Int32)) hx hb dX9_leaderOf_8 (by decide) ?_
    exact g_iret hc hG dX9_leaderOf_9 h
theorem mX9_leaderOf (l : Launch) (E : GE) {S : GS} {a1 : Int32} {a2 : Int32} {a3 : Int32} {res : (Int32 × GS)} (h : fX9_leaderOf S a1 a2 a3 = some res) : gMet l E yX9_leaderOf cX9_leaderOf 10 (some .int) rmX9_leaderOf [gR E 35, .int a1, .int a2, .int a3] S (some (.int res.1)) res.2 :=
  g_met (by decide) (Nat.le_of_ble_eq_true rfl) rfl fun p e s m below meth c H ls hc hG hl => wX9_leaderOf_0 hc S a1 a2 a3 H [] ls hl hG h
abbrev rmX10_tapeFour : Room := { frames := 0, cells := 0, slots := 0, locals := 0 }
def fX10_tapeFour_3 : Nat → GS → Int32 → Int32 → Option (Unit × GS)
  | 0, _, _, _ => none
  | n + 1, S, a1, a2 => (if a2 < 0 then (some ((), S)) else (if (400 : Int32) ≤ (S.1 0 1) then (some ((), S)) else (if gib (S.1 0 1) 400 = true then glet (gsi S 1 (((S.1 0 1)).toNatClampNeg) (vp_nar .byte (((a1 >>> (a2 &&& 31))).toInt8.toInt32))) fun S4 => glet (gsi S4 0 1 ((S4.1 0 1) + (1 : Int32))) fun S5 => glet (a2 + (-8 : Int32)) fun v6 => (fX10_tapeFour_3 n S5 a1 v6) else none)))
set_option maxRecDepth 100000 in
set_option maxHeartbeats 4000000 in
theorem wX10_tapeFour_3 {p : Program} {l : Launch} {e : Env} {s : State} {m : MethodId} {args : Array Value} {below : List Frame} {meth : Method} {c : Code} {E : GE} {res : (Unit × GS)} (hc : GM E p s m args meth c RX10 cX10_tapeFour 3 none) : ∀ (n : Nat), ∀ (S : GS) (a1 : Int32) (a2 : Int32) (H : Heap) (locs : List Loc) (ls : Array Slot), lv_has ls 3 [(0, gR E 0), (1, .int a1), (2, .int a2)] → GX E S H locs → fX10_tapeFour_3 n S a1 a2 = some res → W p l e rmX10_tapeFour s m args below meth c H locs 0 0 (gZ E below args s none res.2) (F0 m 3 ls []) := by
  obtain ⟨hx, hb, -, -, -, hown, hts, -, -⟩ := id hc
  intro n
  induction n with
  | zero => intro S a1 a2 H locs ls hl hG h; cases h
  | succ n ih =>
    intro S a1 a2 H locs ls hl hG h
    rw [fX10_tapeFour_3] at h
    refine lv_iload_n hx hb dX10_tapeFour_3 rfl (lv_at hl 2 rfl) ?_
    refine lv_if_lt (tgt := 46) hx hb dX10_tapeFour_4 (by decide) (fun c1 => ?_) (fun c1 => ?_)
    · have h := g_pos c1 h
      exact g_vret hc hG dX10_tapeFour_46 h
    · have h := g_neg c1 h
      refine lv_aload_n hx hb dX10_tapeFour_7 rfl (lv_at hl 0 rfl) ?_
      refine g_getI hc hG 0 flX10_81 rfl rfl dX10_tapeFour_8 ?_
      refine lv_sipush (v := (400 : Int32)) hx hb dX10_tapeFour_11 (by decide) ?_
      refine lv_icmp_ge (tgt := 46) hx hb dX10_tapeFour_14 (by decide) (fun c2 => ?_) (fun c2 => ?_)
      · have h := g_pos c2 h
        exact g_vret hc hG dX10_tapeFour_46 h
      · have h := g_neg c2 h
        refine lv_aload_n hx hb dX10_tapeFour_17 rfl (lv_at hl 0 rfl) ?_
        refine g_getR hc hG 0 1 flX10_9 rfl rfl rfl dX10_tapeFour_18 ?_
        refine lv_aload_n hx hb dX10_tapeFour_21 rfl (lv_at hl 0 rfl) ?_
        refine g_getI hc hG 0 flX10_81 rfl rfl dX10_tapeFour_22 ?_
        refine lv_iload_n hx hb dX10_tapeFour_25 rfl (lv_at hl 1 rfl) ?_
        refine lv_iload_n hx hb dX10_tapeFour_26 rfl (lv_at hl 2 rfl) ?_
        refine lv_ishr hx hb dX10_tapeFour_27 ?_
        refine lv_i2b (v := (((a1 >>> (a2 &&& 31))).toInt8.toInt32)) hx hb dX10_tapeFour_28 rfl ?_
        obtain ⟨hi3, h⟩ := g_if h
        refine g_bast hc hG 1 400 (((S.1 0 1)).toNatClampNeg) rfl rfl hi3 rfl dX10_tapeFour_29 (fun S4 H locs eS4 hG => ?_)
        have h := g_let eS4 h
        refine lv_aload_n hx hb dX10_tapeFour_30 rfl (lv_at hl 0 rfl) ?_
        refine lv_dup hx hb dX10_tapeFour_31 rfl ?_
        refine g_getI hc hG 0 flX10_81 rfl rfl dX10_tapeFour_32 ?_
        refine lv_iconst (v := (1 : Int32)) hx hb dX10_tapeFour_35 (by decide) ?_
        refine lv_iadd hx hb dX10_tapeFour_36 ?_
        refine g_putI hc hG 0 fpX10_81 rfl rfl rfl rfl dX10_tapeFour_37 (fun S5 H locs eS5 hG => ?_)
        have h := g_let eS5 h
        obtain ⟨v6, ev6⟩ : ∃ y : Int32, y = (a2 + (-8 : Int32)) := ⟨_, rfl⟩
        have h := g_let ev6 h
        refine lv_iinc (v := v6) (lv' := [(2, .int v6), (0, gR E 0), (1, .int a1)]) hx hb dX10_tapeFour_40 hl (k := 2) rfl (by rw [ev6]; rfl) (by decide) rfl (fun ls hl => ?_)
        refine lv_goto (tgt := 3) hx hb dX10_tapeFour_43 (by decide) ?_
        exact ih S5 a1 v6 _ _ _ (lv_sub hl [1, 2, 0] rfl) hG h
def fX10_tapeFour (S : GS) (a1 : Int32) : Option (Unit × GS) := glet (24 : Int32) fun v1 => (fX10_tapeFour_3 FU S a1 v1)
set_option maxRecDepth 100000 in
set_option maxHeartbeats 4000000 in
theorem wX10_tapeFour_0 {p : Program} {l : Launch} {e : Env} {s : State} {m : MethodId} {args : Array Value} {below : List Frame} {meth : Method} {c : Code} {E : GE} {res : (Unit × GS)} (hc : GM E p s m args meth c RX10 cX10_tapeFour 3 none) : ∀ (S : GS) (a1 : Int32) (H : Heap) (locs : List Loc) (ls : Array Slot), lv_has ls 3 [(0, gR E 0), (1, .int a1)] → GX E S H locs → fX10_tapeFour S a1 = some res → W p l e rmX10_tapeFour s m args below meth c H locs 0 0 (gZ E below args s none res.2) (F0 m 0 ls []) := by
  obtain ⟨hx, hb, -, -, -, hown, hts, -, -⟩ := id hc
  intro S a1 H locs ls hl hG h
  unfold fX10_tapeFour at h
  refine lv_bipush (v := (24 : Int32)) hx hb dX10_tapeFour_0 (by decide) ?_
  refine lv_topi (fun v1 ev1 => ?_)
  have h := g_let ev1 h
  refine lv_istore_n (lv' := [(2, .int v1), (0, gR E 0), (1, .int a1)]) hx hb dX10_tapeFour_2 rfl hl (by decide) rfl (fun ls hl => ?_)
  exact wX10_tapeFour_3 hc FU S a1 v1 _ _ _ (lv_sub hl [1, 2, 0] rfl) hG h
theorem mX10_tapeFour (l : Launch) (E : GE) {S : GS} {a1 : Int32} {res : (Unit × GS)} (h : fX10_tapeFour S a1 = some res) : gMet l E yX10_tapeFour cX10_tapeFour 3 none rmX10_tapeFour [gR E 0, .int a1] S none res.2 :=
  g_met (by decide) (Nat.le_of_ble_eq_true rfl) rfl fun p e s m below meth c H ls hc hG hl => wX10_tapeFour_0 hc S a1 H [] ls hl hG h
abbrev rmX10_feed : Room := { frames := 1, cells := 0, slots := 0, locals := 22 }
def fX10_feed (S : GS) (a1 : Int32) (a2 : Int32) (a3 : Int32) (a4 : Int32) (a5 : Int32) : Option (Int32 × GS) := (if ((S.1 0 1) + (20 : Int32)) ≤ (400 : Int32) then gbd (fX10_tapeFour S a1) fun r3 S4 => gbd (fX10_tapeFour S4 a2) fun r6 S7 => gbd (fX10_tapeFour S7 a3) fun r9 S10 => gbd (fX10_tapeFour S10 a4) fun r12 S13 => gbd (fX10_tapeFour S13 a5) fun r15 S16 => (some ((S16.1 0 1), S16)) else (some ((-1 : Int32), S)))
set_option maxRecDepth 100000 in
set_option maxHeartbeats 4000000 in
theorem wX10_feed_0 {p : Program} {l : Launch} {e : Env} {s : State} {m : MethodId} {args : Array Value} {below : List Frame} {meth : Method} {c : Code} {E : GE} {res : (Int32 × GS)} (hc : GM E p s m args meth c RX10 cX10_feed 6 (some .int)) : ∀ (S : GS) (a1 : Int32) (a2 : Int32) (a3 : Int32) (a4 : Int32) (a5 : Int32) (H : Heap) (locs : List Loc) (ls : Array Slot), lv_has ls 6 [(0, gR E 0), (1, .int a1), (2, .int a2), (3, .int a3), (4, .int a4), (5, .int a5)] → GX E S H locs → fX10_feed S a1 a2 a3 a4 a5 = some res → W p l e rmX10_feed s m args below meth c H locs 0 0 (gZ E below args s (some (.int res.1)) res.2) (F0 m 0 ls []) := by
  obtain ⟨hx, hb, -, -, -, hown, hts, -, -⟩ := id hc
  intro S a1 a2 a3 a4 a5 H locs ls hl hG h
  unfold fX10_feed at h
  refine lv_aload_n hx hb dX10_feed_0 rfl (lv_at hl 0 rfl) ?_
  refine g_getI hc hG 0 flX10_81 rfl rfl dX10_feed_1 ?_
  refine lv_bipush (v := (20 : Int32)) hx hb dX10_feed_4 (by decide) ?_
  refine lv_iadd hx hb dX10_feed_6 ?_
  refine lv_sipush (v := (400 : Int32)) hx hb dX10_feed_7 (by decide) ?_
  refine lv_icmp_le (tgt := 15) hx hb dX10_feed_10 (by decide) (fun c1 => ?_) (fun c1 => ?_)
  · have h := g_pos c1 h
    refine lv_aload_n hx hb dX10_feed_15 rfl (lv_at hl 0 rfl) ?_
    refine lv_iload_n hx hb dX10_feed_16 rfl (lv_at hl 1 rfl) ?_
    obtain ⟨r3, S4, hm2, h⟩ := g_bd h
    refine g_callVv (As := [.int a1]) hc hG (mX10_tapeFour l E hm2) mlX10_85 mcX10_tapeFour miX10_tapeFour rfl rfl rfl rfl hl.1 rfl rfl ⟨by decide, by decide⟩ (Nat.le_of_ble_eq_true rfl) ⟨by decide, by decide⟩ dX10_feed_17 rfl (fun H locs hG => ?_)
    refine lv_aload_n hx hb dX10_feed_20 rfl (lv_at hl 0 rfl) ?_
    refine lv_iload_n hx hb dX10_feed_21 rfl (lv_at hl 2 rfl) ?_
    obtain ⟨r6, S7, hm5, h⟩ := g_bd h
    refine g_callVv (As := [.int a2]) hc hG (mX10_tapeFour l E hm5) mlX10_85 mcX10_tapeFour miX10_tapeFour rfl rfl rfl rfl hl.1 rfl rfl ⟨by decide, by decide⟩ (Nat.le_of_ble_eq_true rfl) ⟨by decide, by decide⟩ dX10_feed_22 rfl (fun H locs hG => ?_)
    refine lv_aload_n hx hb dX10_feed_25 rfl (lv_at hl 0 rfl) ?_
    refine lv_iload_n hx hb dX10_feed_26 rfl (lv_at hl 3 rfl) ?_
    obtain ⟨r9, S10, hm8, h⟩ := g_bd h
    refine g_callVv (As := [.int a3]) hc hG (mX10_tapeFour l E hm8) mlX10_85 mcX10_tapeFour miX10_tapeFour rfl rfl rfl rfl hl.1 rfl rfl ⟨by decide, by decide⟩ (Nat.le_of_ble_eq_true rfl) ⟨by decide, by decide⟩ dX10_feed_27 rfl (fun H locs hG => ?_)
    refine lv_aload_n hx hb dX10_feed_30 rfl (lv_at hl 0 rfl) ?_
    refine lv_iload hx hb dX10_feed_31 (lv_at hl 4 rfl) ?_
    obtain ⟨r12, S13, hm11, h⟩ := g_bd h
    refine g_callVv (As := [.int a4]) hc hG (mX10_tapeFour l E hm11) mlX10_85 mcX10_tapeFour miX10_tapeFour rfl rfl rfl rfl hl.1 rfl rfl ⟨by decide, by decide⟩ (Nat.le_of_ble_eq_true rfl) ⟨by decide, by decide⟩ dX10_feed_33 rfl (fun H locs hG => ?_)
    refine lv_aload_n hx hb dX10_feed_36 rfl (lv_at hl 0 rfl) ?_
    refine lv_iload hx hb dX10_feed_37 (lv_at hl 5 rfl) ?_
    obtain ⟨r15, S16, hm14, h⟩ := g_bd h
    refine g_callVv (As := [.int a5]) hc hG (mX10_tapeFour l E hm14) mlX10_85 mcX10_tapeFour miX10_tapeFour rfl rfl rfl rfl hl.1 rfl rfl ⟨by decide, by decide⟩ (Nat.le_of_ble_eq_true rfl) ⟨by decide, by decide⟩ dX10_feed_39 rfl (fun H locs hG => ?_)
    refine lv_aload_n hx hb dX10_feed_42 rfl (lv_at hl 0 rfl) ?_
    refine g_getI hc hG 0 flX10_81 rfl rfl dX10_feed_43 ?_
    exact g_iret hc hG dX10_feed_46 h
  · have h := g_neg c1 h
    refine lv_iconst (v := (-1 : Int32)) hx hb dX10_feed_13 (by decide) ?_
    exact g_iret hc hG dX10_feed_14 h
theorem mX10_feed (l : Launch) (E : GE) {S : GS} {a1 : Int32} {a2 : Int32} {a3 : Int32} {a4 : Int32} {a5 : Int32} {res : (Int32 × GS)} (h : fX10_feed S a1 a2 a3 a4 a5 = some res) : gMet l E yX10_feed cX10_feed 6 (some .int) rmX10_feed [gR E 0, .int a1, .int a2, .int a3, .int a4, .int a5] S (some (.int res.1)) res.2 :=
  g_met (by decide) (Nat.le_of_ble_eq_true rfl) rfl fun p e s m below meth c H ls hc hG hl => wX10_feed_0 hc S a1 a2 a3 a4 a5 H [] ls hl hG h
abbrev rmX10_rules : Room := { frames := 10, cells := 0, slots := 0, locals := 219 }
def fX10_rules (S : GS) (a1 : Int32) : Option (Int32 × GS) := (if a1 < 0 then (some ((-2 : Int32), S)) else (if a1 ≤ (S.1 0 1) then glet (gsi S 0 1 (0 : Int32)) fun S3 => gbd (fX6_read S3 a1 (S3.2.2 1)) fun r5 S6 => (if (S6.1 31 0) = 0 then glet (gsq S6 0 (S6.2.2 1)) fun S8 => glet (gsq S8 1 (S6.2.2 0)) fun S9 => (if gk (S9.2.2 0) = 7 then (some ((S9.1 (S9.2.2 0) 0), S9)) else none) else (some ((-1 : Int32), S6))) else (some ((-2 : Int32), S))))
set_option maxRecDepth 100000 in
set_option maxHeartbeats 4000000 in
theorem wX10_rules_0 {p : Program} {l : Launch} {e : Env} {s : State} {m : MethodId} {args : Array Value} {below : List Frame} {meth : Method} {c : Code} {E : GE} {res : (Int32 × GS)} (hc : GM E p s m args meth c RX10 cX10_rules 3 (some .int)) : ∀ (S : GS) (a1 : Int32) (H : Heap) (locs : List Loc) (ls : Array Slot), lv_has ls 3 [(0, gR E 0), (1, .int a1)] → GX E S H locs → fX10_rules S a1 = some res → W p l e rmX10_rules s m args below meth c H locs 0 0 (gZ E below args s (some (.int res.1)) res.2) (F0 m 0 ls []) := by
  obtain ⟨hx, hb, -, -, -, hown, hts, -, -⟩ := id hc
  intro S a1 H locs ls hl hG h
  unfold fX10_rules at h
  refine lv_iload_n hx hb dX10_rules_0 rfl (lv_at hl 1 rfl) ?_
  refine lv_if_lt (tgt := 12) hx hb dX10_rules_1 (by decide) (fun c1 => ?_) (fun c1 => ?_)
  · have h := g_pos c1 h
    refine lv_bipush (v := (-2 : Int32)) hx hb dX10_rules_12 (by decide) ?_
    exact g_iret hc hG dX10_rules_14 h
  · have h := g_neg c1 h
    refine lv_iload_n hx hb dX10_rules_4 rfl (lv_at hl 1 rfl) ?_
    refine lv_aload_n hx hb dX10_rules_5 rfl (lv_at hl 0 rfl) ?_
    refine g_getI hc hG 0 flX10_81 rfl rfl dX10_rules_6 ?_
    refine lv_icmp_le (tgt := 15) hx hb dX10_rules_9 (by decide) (fun c2 => ?_) (fun c2 => ?_)
    · have h := g_pos c2 h
      refine lv_aload_n hx hb dX10_rules_15 rfl (lv_at hl 0 rfl) ?_
      refine lv_iconst (v := (0 : Int32)) hx hb dX10_rules_16 (by decide) ?_
      refine g_putI hc hG 0 fpX10_81 rfl rfl rfl rfl dX10_rules_17 (fun S3 H locs eS3 hG => ?_)
      have h := g_let eS3 h
      refine lv_aload_n hx hb dX10_rules_20 rfl (lv_at hl 0 rfl) ?_
      refine g_getR hc hG 0 31 flX10_56 rfl rfl rfl dX10_rules_21 ?_
      refine lv_aload_n hx hb dX10_rules_24 rfl (lv_at hl 0 rfl) ?_
      refine g_getR hc hG 0 1 flX10_9 rfl rfl rfl dX10_rules_25 ?_
      refine lv_iload_n hx hb dX10_rules_28 rfl (lv_at hl 1 rfl) ?_
      refine lv_aload_n hx hb dX10_rules_29 rfl (lv_at hl 0 rfl) ?_
      refine g_getR hc hG 0 (S3.2.2 1) flX10_48 rfl rfl rfl dX10_rules_30 ?_
      obtain ⟨r5, S6, hm4, h⟩ := g_bd h
      refine g_callVv (As := [gR E 1, .int a1, gR E (S3.2.2 1)]) hc hG (mX6_read l E hm4) mlX10_89 mcX6_read miX6_read rfl rfl rfl rfl hl.1 rfl rfl ⟨by decide, by decide⟩ (Nat.le_of_ble_eq_true rfl) ⟨by decide, by decide⟩ dX10_rules_33 rfl (fun H locs hG => ?_)
      refine lv_aload_n hx hb dX10_rules_36 rfl (lv_at hl 0 rfl) ?_
      refine g_getR hc hG 0 31 flX10_56 rfl rfl rfl dX10_rules_37 ?_
      refine g_getI hc hG 31 flX10_93 rfl rfl dX10_rules_40 ?_
      refine lv_if_eq (tgt := 48) hx hb dX10_rules_43 (by decide) (fun c7 => ?_) (fun c7 => ?_)
      · have h := g_pos c7 h
        refine lv_aload_n hx hb dX10_rules_48 rfl (lv_at hl 0 rfl) ?_
        refine g_getR hc hG 0 (S6.2.2 0) flX10_44 rfl rfl rfl dX10_rules_49 ?_
        refine lv_astore_n (lv' := [(2, gR E (S6.2.2 0)), (0, gR E 0), (1, .int a1)]) hx hb dX10_rules_52 rfl hl (by decide) rfl (fun ls hl => ?_)
        refine lv_aload_n hx hb dX10_rules_53 rfl (lv_at hl 1 rfl) ?_
        refine lv_aload_n hx hb dX10_rules_54 rfl (lv_at hl 1 rfl) ?_
        refine g_getR hc hG 0 (S6.2.2 1) flX10_48 rfl rfl rfl dX10_rules_55 ?_
        refine g_putR hc hG 0 0 (S6.2.2 1) fpX10_44 (fun _ => rfl) (fun _ => rfl) rfl rfl gq0 dX10_rules_58 (fun S8 H locs eS8 hG => ?_)
        have h := g_let eS8 h
        refine lv_aload_n hx hb dX10_rules_61 rfl (lv_at hl 1 rfl) ?_
        refine lv_aload_n hx hb dX10_rules_62 rfl (lv_at hl 0 rfl) ?_
        refine g_putR hc hG 0 1 (S6.2.2 0) fpX10_48 (fun _ => rfl) (fun _ => rfl) rfl rfl gq1 dX10_rules_63 (fun S9 H locs eS9 hG => ?_)
        have h := g_let eS9 h
        refine lv_aload_n hx hb dX10_rules_66 rfl (lv_at hl 1 rfl) ?_
        refine g_getR hc hG 0 (S9.2.2 0) flX10_44 rfl rfl rfl dX10_rules_67 ?_
        obtain ⟨hk10, h⟩ := g_if h
        refine g_getI hc hG (S9.2.2 0) flX10_96 hk10 rfl dX10_rules_70 ?_
        exact g_iret hc hG dX10_rules_73 h
      · have h := g_neg c7 h
        refine lv_iconst (v := (-1 : Int32)) hx hb dX10_rules_46 (by decide) ?_
        exact g_iret hc hG dX10_rules_47 h
    · have h := g_neg c2 h
      refine lv_bipush (v := (-2 : Int32)) hx hb dX10_rules_12 (by decide) ?_
      exact g_iret hc hG dX10_rules_14 h
theorem mX10_rules (l : Launch) (E : GE) {S : GS} {a1 : Int32} {res : (Int32 × GS)} (h : fX10_rules S a1 = some res) : gMet l E yX10_rules cX10_rules 3 (some .int) rmX10_rules [gR E 0, .int a1] S (some (.int res.1)) res.2 :=
  g_met (by decide) (Nat.le_of_ble_eq_true rfl) rfl fun p e s m below meth c H ls hc hG hl => wX10_rules_0 hc S a1 H [] ls hl hG h
abbrev rmX10_fault : Room := { frames := 0, cells := 0, slots := 0, locals := 0 }
def fX10_fault (S : GS) (a1 : Int32) : Option Int32 := (if a1 = (0 : Int32) then (some (S.1 31 0)) else (if a1 = (1 : Int32) then (some (S.1 31 1)) else (some (-1 : Int32))))
set_option maxRecDepth 100000 in
set_option maxHeartbeats 4000000 in
theorem wX10_fault_0 {p : Program} {l : Launch} {e : Env} {s : State} {m : MethodId} {args : Array Value} {below : List Frame} {meth : Method} {c : Code} {E : GE} {res : Int32} (hc : GM E p s m args meth c RX10 cX10_fault 2 (some .int)) : ∀ (S : GS) (a1 : Int32) (H : Heap) (locs : List Loc) (ls : Array Slot), lv_has ls 2 [(0, gR E 0), (1, .int a1)] → GX E S H locs → fX10_fault S a1 = some res → W p l e rmX10_fault s m args below meth c H locs 0 0 (gZ E below args s (some (.int res)) S) (F0 m 0 ls []) := by
  obtain ⟨hx, hb, -, -, -, hown, hts, -, -⟩ := id hc
  intro S a1 H locs ls hl hG h
  unfold fX10_fault at h
  refine lv_iload_n hx hb dX10_fault_0 rfl (lv_at hl 1 rfl) ?_
  by_cases c1 : a1 = (0 : Int32)
  · have h := g_pos c1 h
    refine lv_lookup (off := 27) (tgt := 28) hx hb dX10_fault_1 (by decide) (by rw [c1]; decide) (by decide) ?_
    refine lv_aload_n hx hb dX10_fault_28 rfl (lv_at hl 0 rfl) ?_
    refine g_getR hc hG 0 31 flX10_56 rfl rfl rfl dX10_fault_29 ?_
    refine g_getI hc hG 31 flX10_93 rfl rfl dX10_fault_32 ?_
    exact g_iretp hc hG dX10_fault_35 h
  have h := g_neg c1 h
  by_cases c2 : a1 = (1 : Int32)
  · have h := g_pos c2 h
    refine lv_lookup (off := 35) (tgt := 36) hx hb dX10_fault_1 (by decide) (by rw [c2]; decide) (by decide) ?_
    refine lv_aload_n hx hb dX10_fault_36 rfl (lv_at hl 0 rfl) ?_
    refine g_getR hc hG 0 31 flX10_56 rfl rfl rfl dX10_fault_37 ?_
    refine g_getI hc hG 31 flX10_99 rfl rfl dX10_fault_40 ?_
    exact g_iretp hc hG dX10_fault_43 h
  have h := g_neg c2 h
  have zc1 : ¬ Int32.toInt a1 = 0 := fun q => c1 (Int32.toInt_inj.mp (q.trans (by decide)))
  have zc2 : ¬ Int32.toInt a1 = 1 := fun q => c2 (Int32.toInt_inj.mp (q.trans (by decide)))
  refine lv_lookup (off := 43) (tgt := 44) hx hb dX10_fault_1 (by decide) (by simp [Op.lookupswitch.offset, zc1, Ne.symm zc1, zc2, Ne.symm zc2]) (by decide) ?_
  refine lv_iconst (v := (-1 : Int32)) hx hb dX10_fault_44 (by decide) ?_
  exact g_iretp hc hG dX10_fault_45 h
theorem mX10_fault (l : Launch) (E : GE) {S : GS} {a1 : Int32} {res : Int32} (h : fX10_fault S a1 = some res) : gMet l E yX10_fault cX10_fault 2 (some .int) rmX10_fault [gR E 0, .int a1] S (some (.int res)) S :=
  g_met (by decide) (Nat.le_of_ble_eq_true rfl) rfl fun p e s m below meth c H ls hc hG hl => wX10_fault_0 hc S a1 H [] ls hl hG h
abbrev rmX10_isDay : Room := { frames := 0, cells := 0, slots := 0, locals := 0 }
def fX10_isDay (S : GS) (a0 : Int32) : Option Int32 := (if a0 < 0 then (some (0 : Int32)) else (if (9999 : Int32) < a0 then (some (0 : Int32)) else (some (1 : Int32))))
set_option maxRecDepth 100000 in
set_option maxHeartbeats 4000000 in
theorem wX10_isDay_0 {p : Program} {l : Launch} {e : Env} {s : State} {m : MethodId} {args : Array Value} {below : List Frame} {meth : Method} {c : Code} {E : GE} {res : Int32} (hc : GM E p s m args meth c RX10 cX10_isDay 1 (some .boolean)) : ∀ (S : GS) (a0 : Int32) (H : Heap) (locs : List Loc) (ls : Array Slot), lv_has ls 1 [(0, .int a0)] → GX E S H locs → fX10_isDay S a0 = some res → W p l e rmX10_isDay s m args below meth c H locs 0 0 (gZ E below args s (some (.int res)) S) (F0 m 0 ls []) := by
  obtain ⟨hx, hb, -, -, -, hown, hts, -, -⟩ := id hc
  intro S a0 H locs ls hl hG h
  unfold fX10_isDay at h
  refine lv_iload_n hx hb dX10_isDay_0 rfl (lv_at hl 0 rfl) ?_
  refine lv_if_lt (tgt := 15) hx hb dX10_isDay_1 (by decide) (fun c1 => ?_) (fun c1 => ?_)
  · have h := g_pos c1 h
    refine lv_iconst (v := (0 : Int32)) hx hb dX10_isDay_15 (by decide) ?_
    exact g_zretp hc hG (Or.inl rfl) dX10_isDay_16 h
  · have h := g_neg c1 h
    refine lv_iload_n hx hb dX10_isDay_4 rfl (lv_at hl 0 rfl) ?_
    refine lv_sipush (v := (9999 : Int32)) hx hb dX10_isDay_5 (by decide) ?_
    refine lv_icmp_gt (tgt := 15) hx hb dX10_isDay_8 (by decide) (fun c2 => ?_) (fun c2 => ?_)
    · have h := g_pos c2 h
      refine lv_iconst (v := (0 : Int32)) hx hb dX10_isDay_15 (by decide) ?_
      exact g_zretp hc hG (Or.inl rfl) dX10_isDay_16 h
    · have h := g_neg c2 h
      refine lv_iconst (v := (1 : Int32)) hx hb dX10_isDay_11 (by decide) ?_
      refine lv_goto (tgt := 16) hx hb dX10_isDay_12 (by decide) ?_
      exact g_zretp hc hG (Or.inr rfl) dX10_isDay_16 h
theorem mX10_isDay (l : Launch) (E : GE) {S : GS} {a0 : Int32} {res : Int32} (h : fX10_isDay S a0 = some res) : gMet l E yX10_isDay cX10_isDay 1 (some .boolean) rmX10_isDay [.int a0] S (some (.int res)) S :=
  g_met (by decide) (Nat.le_of_ble_eq_true rfl) rfl fun p e s m below meth c H ls hc hG hl => wX10_isDay_0 hc S a0 H [] ls hl hG h
abbrev rmX10_days : Room := { frames := 1, cells := 0, slots := 0, locals := 20 }
def fX10_days (S : GS) (a1 : Int32) : Option (Int32 × GS) := gbv (fX10_isDay S a1) fun r2 => (if r2 = 0 then (some ((-1 : Int32), S)) else gbv (fX10_isDay S ((S.1 0 2) + a1)) fun r5 => (if r5 = 0 then (some ((-1 : Int32), S)) else glet (gsi S 0 2 ((S.1 0 2) + a1)) fun S7 => (some ((S7.1 0 2), S7))))
set_option maxRecDepth 100000 in
set_option maxHeartbeats 4000000 in
theorem wX10_days_0 {p : Program} {l : Launch} {e : Env} {s : State} {m : MethodId} {args : Array Value} {below : List Frame} {meth : Method} {c : Code} {E : GE} {res : (Int32 × GS)} (hc : GM E p s m args meth c RX10 cX10_days 2 (some .int)) : ∀ (S : GS) (a1 : Int32) (H : Heap) (locs : List Loc) (ls : Array Slot), lv_has ls 2 [(0, gR E 0), (1, .int a1)] → GX E S H locs → fX10_days S a1 = some res → W p l e rmX10_days s m args below meth c H locs 0 0 (gZ E below args s (some (.int res.1)) res.2) (F0 m 0 ls []) := by
  obtain ⟨hx, hb, -, -, -, hown, hts, -, -⟩ := id hc
  intro S a1 H locs ls hl hG h
  unfold fX10_days at h
  refine lv_iload_n hx hb dX10_days_0 rfl (lv_at hl 1 rfl) ?_
  obtain ⟨r2, hm1, h⟩ := g_bv h
  refine g_callSi (As := [.int a1]) hc hG (mX10_isDay l E hm1) mlX10_102 mcX10_isDay msX10_isDay rfl hl.1 rfl rfl ⟨by decide, by decide⟩ (Nat.le_of_ble_eq_true rfl) ⟨by decide, by decide⟩ dX10_days_1 rfl (fun H locs hG => ?_)
  refine lv_if_eq (tgt := 19) hx hb dX10_days_4 (by decide) (fun c3 => ?_) (fun c3 => ?_)
  · have h := g_pos c3 h
    refine lv_iconst (v := (-1 : Int32)) hx hb dX10_days_19 (by decide) ?_
    exact g_iret hc hG dX10_days_20 h
  · have h := g_neg c3 h
    refine lv_aload_n hx hb dX10_days_7 rfl (lv_at hl 0 rfl) ?_
    refine g_getI hc hG 0 flX10_106 rfl rfl dX10_days_8 ?_
    refine lv_iload_n hx hb dX10_days_11 rfl (lv_at hl 1 rfl) ?_
    refine lv_iadd hx hb dX10_days_12 ?_
    obtain ⟨r5, hm4, h⟩ := g_bv h
    refine g_callSi (As := [.int ((S.1 0 2) + a1)]) hc hG (mX10_isDay l E hm4) mlX10_102 mcX10_isDay msX10_isDay rfl hl.1 rfl rfl ⟨by decide, by decide⟩ (Nat.le_of_ble_eq_true rfl) ⟨by decide, by decide⟩ dX10_days_13 rfl (fun H locs hG => ?_)
    refine lv_if_ne (tgt := 21) hx hb dX10_days_16 (by decide) (fun c6 => ?_) (fun c6 => ?_)
    · have h := g_neg c6 h
      refine lv_aload_n hx hb dX10_days_21 rfl (lv_at hl 0 rfl) ?_
      refine lv_dup hx hb dX10_days_22 rfl ?_
      refine g_getI hc hG 0 flX10_106 rfl rfl dX10_days_23 ?_
      refine lv_iload_n hx hb dX10_days_26 rfl (lv_at hl 1 rfl) ?_
      refine lv_iadd hx hb dX10_days_27 ?_
      refine g_putI hc hG 0 fpX10_106 rfl rfl rfl rfl dX10_days_28 (fun S7 H locs eS7 hG => ?_)
      have h := g_let eS7 h
      refine lv_aload_n hx hb dX10_days_31 rfl (lv_at hl 0 rfl) ?_
      refine g_getI hc hG 0 flX10_106 rfl rfl dX10_days_32 ?_
      exact g_iret hc hG dX10_days_35 h
    · have h := g_pos c6 h
      refine lv_iconst (v := (-1 : Int32)) hx hb dX10_days_19 (by decide) ?_
      exact g_iret hc hG dX10_days_20 h
theorem mX10_days (l : Launch) (E : GE) {S : GS} {a1 : Int32} {res : (Int32 × GS)} (h : fX10_days S a1 = some res) : gMet l E yX10_days cX10_days 2 (some .int) rmX10_days [gR E 0, .int a1] S (some (.int res.1)) res.2 :=
  g_met (by decide) (Nat.le_of_ble_eq_true rfl) rfl fun p e s m below meth c H ls hc hG hl => wX10_days_0 hc S a1 H [] ls hl hG h
abbrev rmX10_court : Room := { frames := 1, cells := 0, slots := 0, locals := 22 }
def fX10_court (S : GS) (a1 : Int32) (a2 : Int32) : Option (Int32 × GS) := (if a1 < 0 then (some ((-1 : Int32), S)) else (if (9 : Int32) < a1 then (some ((-1 : Int32), S)) else (if a2 < 0 then (some ((-1 : Int32), S)) else (if a2 ≤ (3 : Int32) then gbd (fX1_add S a1 a2) fun r6 S7 => (some (r6, S7)) else (some ((-1 : Int32), S))))))
set_option maxRecDepth 100000 in
set_option maxHeartbeats 4000000 in
theorem wX10_court_0 {p : Program} {l : Launch} {e : Env} {s : State} {m : MethodId} {args : Array Value} {below : List Frame} {meth : Method} {c : Code} {E : GE} {res : (Int32 × GS)} (hc : GM E p s m args meth c RX10 cX10_court 3 (some .int)) : ∀ (S : GS) (a1 : Int32) (a2 : Int32) (H : Heap) (locs : List Loc) (ls : Array Slot), lv_has ls 3 [(0, gR E 0), (1, .int a1), (2, .int a2)] → GX E S H locs → fX10_court S a1 a2 = some res → W p l e rmX10_court s m args below meth c H locs 0 0 (gZ E below args s (some (.int res.1)) res.2) (F0 m 0 ls []) := by
  obtain ⟨hx, hb, -, -, -, hown, hts, -, -⟩ := id hc
  intro S a1 a2 H locs ls hl hG h
  unfold fX10_court at h
  refine lv_iload_n hx hb dX10_court_0 rfl (lv_at hl 1 rfl) ?_
  refine lv_if_lt (tgt := 19) hx hb dX10_court_1 (by decide) (fun c1 => ?_) (fun c1 => ?_)
  · have h := g_pos c1 h
    refine lv_iconst (v := (-1 : Int32)) hx hb dX10_court_19 (by decide) ?_
    exact g_iret hc hG dX10_court_20 h
  · have h := g_neg c1 h
    refine lv_iload_n hx hb dX10_court_4 rfl (lv_at hl 1 rfl) ?_
    refine lv_bipush (v := (9 : Int32)) hx hb dX10_court_5 (by decide) ?_
    refine lv_icmp_gt (tgt := 19) hx hb dX10_court_7 (by decide) (fun c2 => ?_) (fun c2 => ?_)
    · have h := g_pos c2 h
      refine lv_iconst (v := (-1 : Int32)) hx hb dX10_court_19 (by decide) ?_
      exact g_iret hc hG dX10_court_20 h
    · have h := g_neg c2 h
      refine lv_iload_n hx hb dX10_court_10 rfl (lv_at hl 2 rfl) ?_
      refine lv_if_lt (tgt := 19) hx hb dX10_court_11 (by decide) (fun c3 => ?_) (fun c3 => ?_)
      · have h := g_pos c3 h
        refine lv_iconst (v := (-1 : Int32)) hx hb dX10_court_19 (by decide) ?_
        exact g_iret hc hG dX10_court_20 h
      · have h := g_neg c3 h
        refine lv_iload_n hx hb dX10_court_14 rfl (lv_at hl 2 rfl) ?_
        refine lv_iconst (v := (3 : Int32)) hx hb dX10_court_15 (by decide) ?_
        refine lv_icmp_le (tgt := 21) hx hb dX10_court_16 (by decide) (fun c4 => ?_) (fun c4 => ?_)
        · have h := g_pos c4 h
          refine lv_aload_n hx hb dX10_court_21 rfl (lv_at hl 0 rfl) ?_
          refine g_getR hc hG 0 2 flX10_16 rfl rfl rfl dX10_court_22 ?_
          refine lv_iload_n hx hb dX10_court_25 rfl (lv_at hl 1 rfl) ?_
          refine lv_iload_n hx hb dX10_court_26 rfl (lv_at hl 2 rfl) ?_
          obtain ⟨r6, S7, hm5, h⟩ := g_bd h
          refine g_callVi (As := [.int a1, .int a2]) hc hG (mX1_add l E hm5) mlX10_109 mcX1_add miX1_add rfl rfl rfl rfl hl.1 rfl rfl ⟨by decide, by decide⟩ (Nat.le_of_ble_eq_true rfl) ⟨by decide, by decide⟩ dX10_court_27 rfl (fun H locs hG => ?_)
          exact g_iret hc hG dX10_court_30 h
        · have h := g_neg c4 h
          refine lv_iconst (v := (-1 : Int32)) hx hb dX10_court_19 (by decide) ?_
          exact g_iret hc hG dX10_court_20 h
theorem mX10_court (l : Launch) (E : GE) {S : GS} {a1 : Int32} {a2 : Int32} {res : (Int32 × GS)} (h : fX10_court S a1 a2 = some res) : gMet l E yX10_court cX10_court 3 (some .int) rmX10_court [gR E 0, .int a1, .int a2] S (some (.int res.1)) res.2 :=
  g_met (by decide) (Nat.le_of_ble_eq_true rfl) rfl fun p e s m below meth c H ls hc hG hl => wX10_court_0 hc S a1 a2 H [] ls hl hG h
abbrev rmX10_point : Room := { frames := 0, cells := 0, slots := 0, locals := 0 }
def fX10_point (S : GS) : Option (Int32 × GS) := (if (S.1 5 0) < (12 : Int32) then glet (gsi S 5 0 ((S.1 5 0) + (1 : Int32))) fun S2 => (some (((S2.1 5 0) - (1 : Int32)), S2)) else (some ((-1 : Int32), S)))
set_option maxRecDepth 100000 in
set_option maxHeartbeats 4000000 in
theorem wX10_point_0 {p : Program} {l : Launch} {e : Env} {s : State} {m : MethodId} {args : Array Value} {below : List Frame} {meth : Method} {c : Code} {E : GE} {res : (Int32 × GS)} (hc : GM E p s m args meth c RX10 cX10_point 1 (some .int)) : ∀ (S : GS) (H : Heap) (locs : List Loc) (ls : Array Slot), lv_has ls 1 [(0, gR E 0)] → GX E S H locs → fX10_point S = some res → W p l e rmX10_point s m args below meth c H locs 0 0 (gZ E below args s (some (.int res.1)) res.2) (F0 m 0 ls []) := by
  obtain ⟨hx, hb, -, -, -, hown, hts, -, -⟩ := id hc
  intro S H locs ls hl hG h
  unfold fX10_point at h
  refine lv_aload_n hx hb dX10_point_0 rfl (lv_at hl 0 rfl) ?_
  refine g_getR hc hG 0 5 flX10_23 rfl rfl rfl dX10_point_1 ?_
  refine g_getI hc hG 5 flX10_113 rfl rfl dX10_point_4 ?_
  refine lv_bipush (v := (12 : Int32)) hx hb dX10_point_7 (by decide) ?_
  refine lv_icmp_lt (tgt := 14) hx hb dX10_point_9 (by decide) (fun c1 => ?_) (fun c1 => ?_)
  · have h := g_pos c1 h
    refine lv_aload_n hx hb dX10_point_14 rfl (lv_at hl 0 rfl) ?_
    refine g_getR hc hG 0 5 flX10_23 rfl rfl rfl dX10_point_15 ?_
    refine lv_dup hx hb dX10_point_18 rfl ?_
    refine g_getI hc hG 5 flX10_113 rfl rfl dX10_point_19 ?_
    refine lv_iconst (v := (1 : Int32)) hx hb dX10_point_22 (by decide) ?_
    refine lv_iadd hx hb dX10_point_23 ?_
    refine g_putI hc hG 5 fpX10_113 rfl rfl rfl rfl dX10_point_24 (fun S2 H locs eS2 hG => ?_)
    have h := g_let eS2 h
    refine lv_aload_n hx hb dX10_point_27 rfl (lv_at hl 0 rfl) ?_
    refine g_getR hc hG 0 5 flX10_23 rfl rfl rfl dX10_point_28 ?_
    refine g_getI hc hG 5 flX10_113 rfl rfl dX10_point_31 ?_
    refine lv_iconst (v := (1 : Int32)) hx hb dX10_point_34 (by decide) ?_
    refine lv_isub hx hb dX10_point_35 ?_
    exact g_iret hc hG dX10_point_36 h
  · have h := g_neg c1 h
    refine lv_iconst (v := (-1 : Int32)) hx hb dX10_point_12 (by decide) ?_
    exact g_iret hc hG dX10_point_13 h
theorem mX10_point (l : Launch) (E : GE) {S : GS} {res : (Int32 × GS)} (h : fX10_point S = some res) : gMet l E yX10_point cX10_point 1 (some .int) rmX10_point [gR E 0] S (some (.int res.1)) res.2 :=
  g_met (by decide) (Nat.le_of_ble_eq_true rfl) rfl fun p e s m below meth c H ls hc hG hl => wX10_point_0 hc S H [] ls hl hG h

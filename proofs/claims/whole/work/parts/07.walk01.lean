abbrev rmX0_add : Room := { frames := 0, cells := 0, slots := 0, locals := 0 }
def fX0_add_114 (S : GS) (a6 : Int32) : Option (Int32 × GS) := (if gib a6 32 = true then glet (gsi S 13 (a6.toNatClampNeg) (S.1 7 0)) fun S2 => glet (gsi S2 7 0 ((S2.1 7 0) + (1 : Int32))) fun S3 => (some (((S3.1 7 0) - (1 : Int32)), S3)) else none)
set_option maxRecDepth 100000 in
set_option maxHeartbeats 4000000 in
theorem wX0_add_114 {p : Program} {l : Launch} {e : Env} {s : State} {m : MethodId} {args : Array Value} {below : List Frame} {meth : Method} {c : Code} {E : GE} {res : (Int32 × GS)} (hc : GM E p s m args meth c RX0 cX0_add 7 (some .int)) : ∀ (S : GS) (a6 : Int32) (H : Heap) (locs : List Loc) (ls : Array Slot), lv_has ls 7 [(0, gR E 7), (6, .int a6)] → GX E S H locs → fX0_add_114 S a6 = some res → W p l e rmX0_add s m args below meth c H locs 0 0 (gZ E below args s (some (.int res.1)) res.2) (F0 m 114 ls []) := by
  obtain ⟨hx, hb, -, -, -, hown, hts, -, -⟩ := id hc
  intro S a6 H locs ls hl hG h
  unfold fX0_add_114 at h
  refine lv_aload_n hx hb dX0_add_114 rfl (lv_at hl 0 rfl) ?_
  refine g_getR hc hG 7 13 flX0_27 rfl rfl rfl dX0_add_115 ?_
  refine lv_iload hx hb dX0_add_118 (lv_at hl 1 rfl) ?_
  refine lv_aload_n hx hb dX0_add_120 rfl (lv_at hl 0 rfl) ?_
  refine g_getI hc hG 7 flX0_30 rfl rfl dX0_add_121 ?_
  obtain ⟨hi1, h⟩ := g_if h
  refine g_iast hc hG 13 32 (a6.toNatClampNeg) rfl rfl hi1 rfl dX0_add_124 (fun S2 H locs eS2 hG => ?_)
  have h := g_let eS2 h
  refine lv_aload_n hx hb dX0_add_125 rfl (lv_at hl 0 rfl) ?_
  refine lv_dup hx hb dX0_add_126 rfl ?_
  refine g_getI hc hG 7 flX0_30 rfl rfl dX0_add_127 ?_
  refine lv_iconst (v := (1 : Int32)) hx hb dX0_add_130 (by decide) ?_
  refine lv_iadd hx hb dX0_add_131 ?_
  refine g_putI hc hG 7 fpX0_30 rfl rfl rfl rfl dX0_add_132 (fun S3 H locs eS3 hG => ?_)
  have h := g_let eS3 h
  refine lv_aload_n hx hb dX0_add_135 rfl (lv_at hl 0 rfl) ?_
  refine g_getI hc hG 7 flX0_30 rfl rfl dX0_add_136 ?_
  refine lv_iconst (v := (1 : Int32)) hx hb dX0_add_139 (by decide) ?_
  refine lv_isub hx hb dX0_add_140 ?_
  exact g_iret hc hG dX0_add_141 h
def fX0_add_69 : Nat → GS → Int32 → Int32 → Option (Int32 × GS)
  | 0, _, _, _ => none
  | n + 1, S, a2, a6 => (if a6 ≤ 0 then (fX0_add_114 S a6) else (if gib (a6 - (1 : Int32)) 32 = true then (if gib (S.1 13 ((a6 - (1 : Int32))).toNatClampNeg) 32 = true then (if (S.1 9 ((S.1 13 ((a6 - (1 : Int32))).toNatClampNeg)).toNatClampNeg) ≤ a2 then (fX0_add_114 S a6) else (if gib a6 32 = true then glet (gsi S 13 (a6.toNatClampNeg) (S.1 13 ((a6 - (1 : Int32))).toNatClampNeg)) fun S6 => glet (a6 + (-1 : Int32)) fun v7 => (fX0_add_69 n S6 a2 v7) else none)) else none) else none))
set_option maxRecDepth 100000 in
set_option maxHeartbeats 4000000 in
theorem wX0_add_69 {p : Program} {l : Launch} {e : Env} {s : State} {m : MethodId} {args : Array Value} {below : List Frame} {meth : Method} {c : Code} {E : GE} {res : (Int32 × GS)} (hc : GM E p s m args meth c RX0 cX0_add 7 (some .int)) : ∀ (n : Nat), ∀ (S : GS) (a2 : Int32) (a6 : Int32) (H : Heap) (locs : List Loc) (ls : Array Slot), lv_has ls 7 [(0, gR E 7), (2, .int a2), (6, .int a6)] → GX E S H locs → fX0_add_69 n S a2 a6 = some res → W p l e rmX0_add s m args below meth c H locs 0 0 (gZ E below args s (some (.int res.1)) res.2) (F0 m 69 ls []) := by
  obtain ⟨hx, hb, -, -, -, hown, hts, -, -⟩ := id hc
  intro n
  induction n with
  | zero => intro S a2 a6 H locs ls hl hG h; cases h
  | succ n ih =>
    intro S a2 a6 H locs ls hl hG h
    rw [fX0_add_69] at h
    refine lv_iload hx hb dX0_add_69 (lv_at hl 2 rfl) ?_
    refine lv_if_le (tgt := 114) hx hb dX0_add_71 (by decide) (fun c1 => ?_) (fun c1 => ?_)
    · have h := g_pos c1 h
      exact wX0_add_114 hc S a6 _ _ _ (lv_sub hl [0, 2] rfl) hG h
    · have h := g_neg c1 h
      refine lv_aload_n hx hb dX0_add_74 rfl (lv_at hl 0 rfl) ?_
      refine g_getR hc hG 7 9 flX0_15 rfl rfl rfl dX0_add_75 ?_
      refine lv_aload_n hx hb dX0_add_78 rfl (lv_at hl 0 rfl) ?_
      refine g_getR hc hG 7 13 flX0_27 rfl rfl rfl dX0_add_79 ?_
      refine lv_iload hx hb dX0_add_82 (lv_at hl 2 rfl) ?_
      refine lv_iconst (v := (1 : Int32)) hx hb dX0_add_84 (by decide) ?_
      refine lv_isub hx hb dX0_add_85 ?_
      obtain ⟨hi2, h⟩ := g_if h
      refine g_iald hc hG 13 32 (((a6 - (1 : Int32))).toNatClampNeg) rfl rfl hi2 rfl dX0_add_86 ?_
      obtain ⟨hi3, h⟩ := g_if h
      refine g_iald hc hG 9 32 (((S.1 13 ((a6 - (1 : Int32))).toNatClampNeg)).toNatClampNeg) rfl rfl hi3 rfl dX0_add_87 ?_
      refine lv_iload_n hx hb dX0_add_88 rfl (lv_at hl 1 rfl) ?_
      refine lv_icmp_le (tgt := 114) hx hb dX0_add_89 (by decide) (fun c4 => ?_) (fun c4 => ?_)
      · have h := g_pos c4 h
        exact wX0_add_114 hc S a6 _ _ _ (lv_sub hl [0, 2] rfl) hG h
      · have h := g_neg c4 h
        refine lv_aload_n hx hb dX0_add_92 rfl (lv_at hl 0 rfl) ?_
        refine g_getR hc hG 7 13 flX0_27 rfl rfl rfl dX0_add_93 ?_
        refine lv_iload hx hb dX0_add_96 (lv_at hl 2 rfl) ?_
        refine lv_aload_n hx hb dX0_add_98 rfl (lv_at hl 0 rfl) ?_
        refine g_getR hc hG 7 13 flX0_27 rfl rfl rfl dX0_add_99 ?_
        refine lv_iload hx hb dX0_add_102 (lv_at hl 2 rfl) ?_
        refine lv_iconst (v := (1 : Int32)) hx hb dX0_add_104 (by decide) ?_
        refine lv_isub hx hb dX0_add_105 ?_
        refine g_iald hc hG 13 32 (((a6 - (1 : Int32))).toNatClampNeg) rfl rfl hi2 rfl dX0_add_106 ?_
        obtain ⟨hi5, h⟩ := g_if h
        refine g_iast hc hG 13 32 (a6.toNatClampNeg) rfl rfl hi5 rfl dX0_add_107 (fun S6 H locs eS6 hG => ?_)
        have h := g_let eS6 h
        obtain ⟨v7, ev7⟩ : ∃ y : Int32, y = (a6 + (-1 : Int32)) := ⟨_, rfl⟩
        have h := g_let ev7 h
        refine lv_iinc (v := v7) (lv' := [(6, .int v7), (0, gR E 7), (2, .int a2)]) hx hb dX0_add_108 hl (k := 2) rfl (by rw [ev7]; rfl) (by decide) rfl (fun ls hl => ?_)
        refine lv_goto (tgt := 69) hx hb dX0_add_111 (by decide) ?_
        exact ih S6 a2 v7 _ _ _ (lv_sub hl [1, 2, 0] rfl) hG h
def fX0_add (S : GS) (a1 : Int32) (a2 : Int32) (a3 : Int32) (a4 : Int32) (a5 : Int32) : Option (Int32 × GS) := (if (S.1 7 0) < (32 : Int32) then (if gib (S.1 7 0) 32 = true then glet (gsi S 8 (((S.1 7 0)).toNatClampNeg) a1) fun S3 => (if gib (S3.1 7 0) 32 = true then glet (gsi S3 9 (((S3.1 7 0)).toNatClampNeg) a2) fun S5 => (if gib (S5.1 7 0) 32 = true then glet (gsi S5 10 (((S5.1 7 0)).toNatClampNeg) a3) fun S7 => (if gib (S7.1 7 0) 32 = true then glet (gsi S7 11 (((S7.1 7 0)).toNatClampNeg) a4) fun S9 => (if gib (S9.1 7 0) 32 = true then glet (gsi S9 12 (((S9.1 7 0)).toNatClampNeg) a5) fun S11 => glet (S11.1 7 0) fun v12 => (fX0_add_69 FU S11 a2 v12) else none) else none) else none) else none) else none) else (some ((-1 : Int32), S)))
set_option maxRecDepth 100000 in
set_option maxHeartbeats 4000000 in
theorem wX0_add_0 {p : Program} {l : Launch} {e : Env} {s : State} {m : MethodId} {args : Array Value} {below : List Frame} {meth : Method} {c : Code} {E : GE} {res : (Int32 × GS)} (hc : GM E p s m args meth c RX0 cX0_add 7 (some .int)) : ∀ (S : GS) (a1 : Int32) (a2 : Int32) (a3 : Int32) (a4 : Int32) (a5 : Int32) (H : Heap) (locs : List Loc) (ls : Array Slot), lv_has ls 7 [(0, gR E 7), (1, .int a1), (2, .int a2), (3, .int a3), (4, .int a4), (5, .int a5)] → GX E S H locs → fX0_add S a1 a2 a3 a4 a5 = some res → W p l e rmX0_add s m args below meth c H locs 0 0 (gZ E below args s (some (.int res.1)) res.2) (F0 m 0 ls []) := by
  obtain ⟨hx, hb, -, -, -, hown, hts, -, -⟩ := id hc
  intro S a1 a2 a3 a4 a5 H locs ls hl hG h
  unfold fX0_add at h
  refine lv_aload_n hx hb dX0_add_0 rfl (lv_at hl 0 rfl) ?_
  refine g_getI hc hG 7 flX0_30 rfl rfl dX0_add_1 ?_
  refine lv_bipush (v := (32 : Int32)) hx hb dX0_add_4 (by decide) ?_
  refine lv_icmp_lt (tgt := 11) hx hb dX0_add_6 (by decide) (fun c1 => ?_) (fun c1 => ?_)
  · have h := g_pos c1 h
    refine lv_aload_n hx hb dX0_add_11 rfl (lv_at hl 0 rfl) ?_
    refine g_getR hc hG 7 8 flX0_9 rfl rfl rfl dX0_add_12 ?_
    refine lv_aload_n hx hb dX0_add_15 rfl (lv_at hl 0 rfl) ?_
    refine g_getI hc hG 7 flX0_30 rfl rfl dX0_add_16 ?_
    refine lv_iload_n hx hb dX0_add_19 rfl (lv_at hl 1 rfl) ?_
    obtain ⟨hi2, h⟩ := g_if h
    refine g_iast hc hG 8 32 (((S.1 7 0)).toNatClampNeg) rfl rfl hi2 rfl dX0_add_20 (fun S3 H locs eS3 hG => ?_)
    have h := g_let eS3 h
    refine lv_aload_n hx hb dX0_add_21 rfl (lv_at hl 0 rfl) ?_
    refine g_getR hc hG 7 9 flX0_15 rfl rfl rfl dX0_add_22 ?_
    refine lv_aload_n hx hb dX0_add_25 rfl (lv_at hl 0 rfl) ?_
    refine g_getI hc hG 7 flX0_30 rfl rfl dX0_add_26 ?_
    refine lv_iload_n hx hb dX0_add_29 rfl (lv_at hl 2 rfl) ?_
    obtain ⟨hi4, h⟩ := g_if h
    refine g_iast hc hG 9 32 (((S3.1 7 0)).toNatClampNeg) rfl rfl hi4 rfl dX0_add_30 (fun S5 H locs eS5 hG => ?_)
    have h := g_let eS5 h
    refine lv_aload_n hx hb dX0_add_31 rfl (lv_at hl 0 rfl) ?_
    refine g_getR hc hG 7 10 flX0_18 rfl rfl rfl dX0_add_32 ?_
    refine lv_aload_n hx hb dX0_add_35 rfl (lv_at hl 0 rfl) ?_
    refine g_getI hc hG 7 flX0_30 rfl rfl dX0_add_36 ?_
    refine lv_iload_n hx hb dX0_add_39 rfl (lv_at hl 3 rfl) ?_
    obtain ⟨hi6, h⟩ := g_if h
    refine g_iast hc hG 10 32 (((S5.1 7 0)).toNatClampNeg) rfl rfl hi6 rfl dX0_add_40 (fun S7 H locs eS7 hG => ?_)
    have h := g_let eS7 h
    refine lv_aload_n hx hb dX0_add_41 rfl (lv_at hl 0 rfl) ?_
    refine g_getR hc hG 7 11 flX0_21 rfl rfl rfl dX0_add_42 ?_
    refine lv_aload_n hx hb dX0_add_45 rfl (lv_at hl 0 rfl) ?_
    refine g_getI hc hG 7 flX0_30 rfl rfl dX0_add_46 ?_
    refine lv_iload hx hb dX0_add_49 (lv_at hl 4 rfl) ?_
    obtain ⟨hi8, h⟩ := g_if h
    refine g_iast hc hG 11 32 (((S7.1 7 0)).toNatClampNeg) rfl rfl hi8 rfl dX0_add_51 (fun S9 H locs eS9 hG => ?_)
    have h := g_let eS9 h
    refine lv_aload_n hx hb dX0_add_52 rfl (lv_at hl 0 rfl) ?_
    refine g_getR hc hG 7 12 flX0_24 rfl rfl rfl dX0_add_53 ?_
    refine lv_aload_n hx hb dX0_add_56 rfl (lv_at hl 0 rfl) ?_
    refine g_getI hc hG 7 flX0_30 rfl rfl dX0_add_57 ?_
    refine lv_iload hx hb dX0_add_60 (lv_at hl 5 rfl) ?_
    obtain ⟨hi10, h⟩ := g_if h
    refine g_iast hc hG 12 32 (((S9.1 7 0)).toNatClampNeg) rfl rfl hi10 rfl dX0_add_62 (fun S11 H locs eS11 hG => ?_)
    have h := g_let eS11 h
    refine lv_aload_n hx hb dX0_add_63 rfl (lv_at hl 0 rfl) ?_
    refine g_getI hc hG 7 flX0_30 rfl rfl dX0_add_64 ?_
    refine lv_topi (fun v12 ev12 => ?_)
    have h := g_let ev12 h
    refine lv_istore (lv' := [(6, .int v12), (0, gR E 7), (1, .int a1), (2, .int a2), (3, .int a3), (4, .int a4), (5, .int a5)]) hx hb dX0_add_67 hl (by decide) rfl (fun ls hl => ?_)
    exact wX0_add_69 hc FU S11 a2 v12 _ _ _ (lv_sub hl [1, 3, 0] rfl) hG h
  · have h := g_neg c1 h
    refine lv_iconst (v := (-1 : Int32)) hx hb dX0_add_9 (by decide) ?_
    exact g_iret hc hG dX0_add_10 h
theorem mX0_add (l : Launch) (E : GE) {S : GS} {a1 : Int32} {a2 : Int32} {a3 : Int32} {a4 : Int32} {a5 : Int32} {res : (Int32 × GS)} (h : fX0_add S a1 a2 a3 a4 a5 = some res) : gMet l E yX0_add cX0_add 7 (some .int) rmX0_add [gR E 7, .int a1, .int a2, .int a3, .int a4, .int a5] S (some (.int res.1)) res.2 :=
  g_met (by decide) (Nat.le_of_ble_eq_true rfl) rfl fun p e s m below meth c H ls hc hG hl => wX0_add_0 hc S a1 a2 a3 a4 a5 H [] ls hl hG h
abbrev rmX0_isLater : Room := { frames := 0, cells := 0, slots := 0, locals := 0 }
def fX0_isLater (S : GS) (a1 : Int32) (a2 : Int32) : Option Int32 := (if gib a1 32 = true then (if gib a2 32 = true then (if (S.1 9 a2.toNatClampNeg) < (S.1 9 a1.toNatClampNeg) then (some (1 : Int32)) else (if (S.1 9 a1.toNatClampNeg) = (S.1 9 a2.toNatClampNeg) then (if a1 ≤ a2 then (some (0 : Int32)) else (some (1 : Int32))) else (some (0 : Int32)))) else none) else none)
set_option maxRecDepth 100000 in
set_option maxHeartbeats 4000000 in
theorem wX0_isLater_0 {p : Program} {l : Launch} {e : Env} {s : State} {m : MethodId} {args : Array Value} {below : List Frame} {meth : Method} {c : Code} {E : GE} {res : Int32} (hc : GM E p s m args meth c RX0 cX0_isLater 3 (some .boolean)) : ∀ (S : GS) (a1 : Int32) (a2 : Int32) (H : Heap) (locs : List Loc) (ls : Array Slot), lv_has ls 3 [(0, gR E 7), (1, .int a1), (2, .int a2)] → GX E S H locs → fX0_isLater S a1 a2 = some res → W p l e rmX0_isLater s m args below meth c H locs 0 0 (gZ E below args s (some (.int res)) S) (F0 m 0 ls []) := by
  obtain ⟨hx, hb, -, -, -, hown, hts, -, -⟩ := id hc
  intro S a1 a2 H locs ls hl hG h
  unfold fX0_isLater at h
  refine lv_aload_n hx hb dX0_isLater_0 rfl (lv_at hl 0 rfl) ?_
  refine g_getR hc hG 7 9 flX0_15 rfl rfl rfl dX0_isLater_1 ?_
  refine lv_iload_n hx hb dX0_isLater_4 rfl (lv_at hl 1 rfl) ?_
  obtain ⟨hi1, h⟩ := g_if h
  refine g_iald hc hG 9 32 (a1.toNatClampNeg) rfl rfl hi1 rfl dX0_isLater_5 ?_
  refine lv_aload_n hx hb dX0_isLater_6 rfl (lv_at hl 0 rfl) ?_
  refine g_getR hc hG 7 9 flX0_15 rfl rfl rfl dX0_isLater_7 ?_
  refine lv_iload_n hx hb dX0_isLater_10 rfl (lv_at hl 2 rfl) ?_
  obtain ⟨hi2, h⟩ := g_if h
  refine g_iald hc hG 9 32 (a2.toNatClampNeg) rfl rfl hi2 rfl dX0_isLater_11 ?_
  refine lv_icmp_gt (tgt := 35) hx hb dX0_isLater_12 (by decide) (fun c3 => ?_) (fun c3 => ?_)
  · have h := g_pos c3 h
    refine lv_iconst (v := (1 : Int32)) hx hb dX0_isLater_35 (by decide) ?_
    refine lv_goto (tgt := 40) hx hb dX0_isLater_36 (by decide) ?_
    exact g_zretp hc hG (Or.inr rfl) dX0_isLater_40 h
  · have h := g_neg c3 h
    refine lv_aload_n hx hb dX0_isLater_15 rfl (lv_at hl 0 rfl) ?_
    refine g_getR hc hG 7 9 flX0_15 rfl rfl rfl dX0_isLater_16 ?_
    refine lv_iload_n hx hb dX0_isLater_19 rfl (lv_at hl 1 rfl) ?_
    refine g_iald hc hG 9 32 (a1.toNatClampNeg) rfl rfl hi1 rfl dX0_isLater_20 ?_
    refine lv_aload_n hx hb dX0_isLater_21 rfl (lv_at hl 0 rfl) ?_
    refine g_getR hc hG 7 9 flX0_15 rfl rfl rfl dX0_isLater_22 ?_
    refine lv_iload_n hx hb dX0_isLater_25 rfl (lv_at hl 2 rfl) ?_
    refine g_iald hc hG 9 32 (a2.toNatClampNeg) rfl rfl hi2 rfl dX0_isLater_26 ?_
    refine lv_icmp_ne (tgt := 39) hx hb dX0_isLater_27 (by decide) (fun c4 => ?_) (fun c4 => ?_)
    · have h := g_neg c4 h
      refine lv_iconst (v := (0 : Int32)) hx hb dX0_isLater_39 (by decide) ?_
      exact g_zretp hc hG (Or.inl rfl) dX0_isLater_40 h
    · have h := g_pos c4 h
      refine lv_iload_n hx hb dX0_isLater_30 rfl (lv_at hl 1 rfl) ?_
      refine lv_iload_n hx hb dX0_isLater_31 rfl (lv_at hl 2 rfl) ?_
      refine lv_icmp_le (tgt := 39) hx hb dX0_isLater_32 (by decide) (fun c5 => ?_) (fun c5 => ?_)
      · have h := g_pos c5 h
        refine lv_iconst (v := (0 : Int32)) hx hb dX0_isLater_39 (by decide) ?_
        exact g_zretp hc hG (Or.inl rfl) dX0_isLater_40 h
      · have h := g_neg c5 h
        refine lv_iconst (v := (1 : Int32)) hx hb dX0_isLater_35 (by decide) ?_
        refine lv_goto (tgt := 40) hx hb dX0_isLater_36 (by decide) ?_
        exact g_zretp hc hG (Or.inr rfl) dX0_isLater_40 h
theorem mX0_isLater (l : Launch) (E : GE) {S : GS} {a1 : Int32} {a2 : Int32} {res : Int32} (h : fX0_isLater S a1 a2 = some res) : gMet l E yX0_isLater cX0_isLater 3 (some .boolean) rmX0_isLater [gR E 7, .int a1, .int a2] S (some (.int res)) S :=
  g_met (by decide) (Nat.le_of_ble_eq_true rfl) rfl fun p e s m below meth c H ls hc hG hl => wX0_isLater_0 hc S a1 a2 H [] ls hl hG h
abbrev rmX1_add : Room := { frames := 0, cells := 0, slots := 0, locals := 0 }
def fX1_add (S : GS) (a1 : Int32) (a2 : Int32) : Option (Int32 × GS) := (if (S.1 2 0) < (6 : Int32) then (if gib (S.1 2 0) 6 = true then glet (gsi S 3 (((S.1 2 0)).toNatClampNeg) a1) fun S3 => (if gib (S3.1 2 0) 6 = true then glet (gsi S3 4 (((S3.1 2 0)).toNatClampNeg) a2) fun S5 => glet (gsi S5 2 0 ((S5.1 2 0) + (1 : Int32))) fun S6 => (some (((S6.1 2 0) - (1 : Int32)), S6)) else none) else none) else (some ((-1 : Int32), S)))
set_option maxRecDepth 100000 in
set_option maxHeartbeats 4000000 in
theorem wX1_add_0 {p : Program} {l : Launch} {e : Env} {s : State} {m : MethodId} {args : Array Value} {below : List Frame} {meth : Method} {c : Code} {E : GE} {res : (Int32 × GS)} (hc : GM E p s m args meth c RX1 cX1_add 3 (some .int)) : ∀ (S : GS) (a1 : Int32) (a2 : Int32) (H : Heap) (locs : List Loc) (ls : Array Slot), lv_has ls 3 [(0, gR E 2), (1, .int a1), (2, .int a2)] → GX E S H locs → fX1_add S a1 a2 = some res → W p l e rmX1_add s m args below meth c H locs 0 0 (gZ E below args s (some (.int res.1)) res.2) (F0 m 0 ls []) := by
  obtain ⟨hx, hb, -, -, -, hown, hts, -, -⟩ := id hc
  intro S a1 a2 H locs ls hl hG h
  unfold fX1_add at h
  refine lv_aload_n hx hb dX1_add_0 rfl (lv_at hl 0 rfl) ?_
  refine g_getI hc hG 2 flX1_18 rfl rfl dX1_add_1 ?_
  refine lv_bipush (v := (6 : Int32)) hx hb dX1_add_4 (by decide) ?_
  refine lv_icmp_lt (tgt := 11) hx hb dX1_add_6 (by decide) (fun c1 => ?_) (fun c1 => ?_)
  · have h := g_pos c1 h
    refine lv_aload_n hx hb dX1_add_11 rfl (lv_at hl 0 rfl) ?_
    refine g_getR hc hG 2 3 flX1_9 rfl rfl rfl dX1_add_12 ?_
    refine lv_aload_n hx hb dX1_add_15 rfl (lv_at hl 0 rfl) ?_
    refine g_getI hc hG 2 flX1_18 rfl rfl dX1_add_16 ?_
    refine lv_iload_n hx hb dX1_add_19 rfl (lv_at hl 1 rfl) ?_
    obtain ⟨hi2, h⟩ := g_if h
    refine g_iast hc hG 3 6 (((S.1 2 0)).toNatClampNeg) rfl rfl hi2 rfl dX1_add_20 (fun S3 H locs eS3 hG => ?_)
    have h := g_let eS3 h
    refine lv_aload_n hx hb dX1_add_21 rfl (lv_at hl 0 rfl) ?_
    refine g_getR hc hG 2 4 flX1_15 rfl rfl rfl dX1_add_22 ?_
    refine lv_aload_n hx hb dX1_add_25 rfl (lv_at hl 0 rfl) ?_
    refine g_getI hc hG 2 flX1_18 rfl rfl dX1_add_26 ?_
    refine lv_iload_n hx hb dX1_add_29 rfl (lv_at hl 2 rfl) ?_
    obtain ⟨hi4, h⟩ := g_if h
    refine g_iast hc hG 4 6 (((S3.1 2 0)).toNatClampNeg) rfl rfl hi4 rfl dX1_add_30 (fun S5 H locs eS5 hG => ?_)
    have h := g_let eS5 h
    refine lv_aload_n hx hb dX1_add_31 rfl (lv_at hl 0 rfl) ?_
    refine lv_dup hx hb dX1_add_32 rfl ?_
    refine g_getI hc hG 2 flX1_18 rfl rfl dX1_add_33 ?_
    refine lv_iconst (v := (1 : Int32)) hx hb dX1_add_36 (by decide) ?_
    refine lv_iadd hx hb dX1_add_37 ?_
    refine g_putI hc hG 2 fpX1_18 rfl rfl rfl rfl dX1_add_38 (fun S6 H locs eS6 hG => ?_)
    have h := g_let eS6 h
    refine lv_aload_n hx hb dX1_add_41 rfl (lv_at hl 0 rfl) ?_
    refine g_getI hc hG 2 flX1_18 rfl rfl dX1_add_42 ?_
    refine lv_iconst (v := (1 : Int32)) hx hb dX1_add_45 (by decide) ?_
    refine lv_isub hx hb dX1_add_46 ?_
    exact g_iret hc hG dX1_add_47 h
  · have h := g_neg c1 h
    refine lv_iconst (v := (-1 : Int32)) hx hb dX1_add_9 (by decide) ?_
    exact g_iret hc hG dX1_add_10 h
theorem mX1_add (l : Launch) (E : GE) {S : GS} {a1 : Int32} {a2 : Int32} {res : (Int32 × GS)} (h : fX1_add S a1 a2 = some res) : gMet l E yX1_add cX1_add 3 (some .int) rmX1_add [gR E 2, .int a1, .int a2] S (some (.int res.1)) res.2 :=
  g_met (by decide) (Nat.le_of_ble_eq_true rfl) rfl fun p e s m below meth c H ls hc hG hl => wX1_add_0 hc S a1 a2 H [] ls hl hG h
abbrev rmX2_clear : Room := { frames := 0, cells := 0, slots := 0, locals := 0 }
def fX2_clear (S : GS) (a0 : Nat) : Option (Unit × GS) := (if gk a0 = 2 then glet (gsi S a0 0 (0 : Int32)) fun S2 => glet (gsi S2 a0 1 (0 : Int32)) fun S3 => (some ((), S3)) else none)
set_option maxRecDepth 100000 in
set_option maxHeartbeats 4000000 in
theorem wX2_clear_0 {p : Program} {l : Launch} {e : Env} {s : State} {m : MethodId} {args : Array Value} {below : List Frame} {meth : Method} {c : Code} {E : GE} {res : (Unit × GS)} (hc : GM E p s m args meth c RX2 cX2_clear 1 none) : ∀ (S : GS) (a0 : Nat) (H : Heap) (locs : List Loc) (ls : Array Slot), lv_has ls 1 [(0, gR E a0)] → GX E S H locs → fX2_clear S a0 = some res → W p l e rmX2_clear s m args below meth c H locs 0 0 (gZ E below args s none res.2) (F0 m 0 ls []) := by
  obtain ⟨hx, hb, -, -, -, hown, hts, -, -⟩ := id hc
  intro S a0 H locs ls hl hG h
  unfold fX2_clear at h
  refine lv_aload_n hx hb dX2_clear_0 rfl (lv_at hl 0 rfl) ?_
  refine lv_iconst (v := (0 : Int32)) hx hb dX2_clear_1 (by decide) ?_
  obtain ⟨hk1, h⟩ := g_if h
  refine g_putI hc hG a0 fpX2_15 rfl (by decide) hk1 rfl dX2_clear_2 (fun S2 H locs eS2 hG => ?_)
  have h := g_let eS2 h
  refine lv_aload_n hx hb dX2_clear_5 rfl (lv_at hl 0 rfl) ?_
  refine lv_iconst (v := (0 : Int32)) hx hb dX2_clear_6 (by decide) ?_
  refine g_putI hc hG a0 fpX2_19 rfl rfl hk1 rfl dX2_clear_7 (fun S3 H locs eS3 hG => ?_)
  have h := g_let eS3 h
  exact g_vret hc hG dX2_clear_10 h
theorem mX2_clear (l : Launch) (E : GE) {S : GS} {a0 : Nat} {res : (Unit × GS)} (h : fX2_clear S a0 = some res) : gMet l E yX2_clear cX2_clear 1 none rmX2_clear [gR E a0] S none res.2 :=
  g_met (by decide) (Nat.le_of_ble_eq_true rfl) rfl fun p e s m below meth c H ls hc hG hl => wX2_clear_0 hc S a0 H [] ls hl hG h
abbrev rmX2_add : Room := { frames := 0, cells := 0, slots := 0, locals := 0 }
def fX2_add (S : GS) (a0 : Nat) (a1 : Int32) : Option (Unit × GS) := (if gk a0 = 2 then (if (64 : Int32) ≤ (S.1 a0 1) then (some ((), S)) else (if gk (gr S.2.2 a0 2) = 12 then (if gib (S.1 a0 1) (gn (gr S.2.2 a0 2)) = true then glet (gsi S (gr S.2.2 a0 2) (((S.1 a0 1)).toNatClampNeg) a1) fun S5 => glet (gsi S5 a0 1 ((S5.1 a0 1) + (1 : Int32))) fun S6 => (some ((), S6)) else none) else none)) else none)
set_option maxRecDepth 100000 in
set_option maxHeartbeats 4000000 in
theorem wX2_add_0 {p : Program} {l : Launch} {e : Env} {s : State} {m : MethodId} {args : Array Value} {below : List Frame} {meth : Method} {c : Code} {E : GE} {res : (Unit × GS)} (hc : GM E p s m args meth c RX2 cX2_add 2 none) : ∀ (S : GS) (a0 : Nat) (a1 : Int32) (H : Heap) (locs : List Loc) (ls : Array Slot), lv_has ls 2 [(0, gR E a0), (1, .int a1)] → GX E S H locs → fX2_add S a0 a1 = some res → W p l e rmX2_add s m args below meth c H locs 0 0 (gZ E below args s none res.2) (F0 m 0 ls []) := by
  obtain ⟨hx, hb, -, -, -, hown, hts, -, -⟩ := id hc
  intro S a0 a1 H locs ls hl hG h
  unfold fX2_add at h
  refine lv_aload_n hx hb dX2_add_0 rfl (lv_at hl 0 rfl) ?_
  obtain ⟨hk1, h⟩ := g_if h
  refine g_getI hc hG a0 flX2_19 hk1 rfl dX2_add_1 ?_
  refine lv_bipush (v := (64 : Int32)) hx hb dX2_add_4 (by decide) ?_
  refine lv_icmp_ge (tgt := 29) hx hb dX2_add_6 (by decide) (fun c2 => ?_) (fun c2 => ?_)
  · have h := g_pos c2 h
    exact g_vret hc hG dX2_add_29 h
  · have h := g_neg c2 h
    refine lv_aload_n hx hb dX2_add_9 rfl (lv_at hl 0 rfl) ?_
    refine g_getR hc hG a0 (gr S.2.2 a0 2) flX2_9 hk1 rfl rfl dX2_add_10 ?_
    refine lv_aload_n hx hb dX2_add_13 rfl (lv_at hl 0 rfl) ?_
    refine g_getI hc hG a0 flX2_19 hk1 rfl dX2_add_14 ?_
    refine lv_iload_n hx hb dX2_add_17 rfl (lv_at hl 1 rfl) ?_
    obtain ⟨hk3, h⟩ := g_if h
    obtain ⟨hi4, h⟩ := g_if h
    refine g_iast hc hG (gr S.2.2 a0 2) (gn (gr S.2.2 a0 2)) (((S.1 a0 1)).toNatClampNeg) hk3 rfl hi4 rfl dX2_add_18 (fun S5 H locs eS5 hG => ?_)
    have h := g_let eS5 h
    refine lv_aload_n hx hb dX2_add_19 rfl (lv_at hl 0 rfl) ?_
    refine lv_dup hx hb dX2_add_20 rfl ?_
    refine g_getI hc hG a0 flX2_19 hk1 rfl dX2_add_21 ?_
    refine lv_iconst (v := (1 : Int32)) hx hb dX2_add_24 (by decide) ?_
    refine lv_iadd hx hb dX2_add_25 ?_
    refine g_putI hc hG a0 fpX2_19 rfl rfl hk1 rfl dX2_add_26 (fun S6 H locs eS6 hG => ?_)
    have h := g_let eS6 h
    exact g_vret hc hG dX2_add_29 h
theorem mX2_add (l : Launch) (E : GE) {S : GS} {a0 : Nat} {a1 : Int32} {res : (Unit × GS)} (h : fX2_add S a0 a1 = some res) : gMet l E yX2_add cX2_add 2 none rmX2_add [gR E a0, .int a1] S none res.2 :=
  g_met (by decide) (Nat.le_of_ble_eq_true rfl) rfl fun p e s m below meth c H ls hc hG hl => wX2_add_0 hc S a0 a1 H [] ls hl hG h
abbrev rmX2_work : Room := { frames := 0, cells := 0, slots := 0, locals := 0 }
def fX2_work_217 (S : GS) (t0 : Int64) (t1 : Int64) (t2 : Int64) (a1 : Int64) (a3 : Int64) : Option Int64 := (if ¬ t2 = 0 then (if (lg_cmp t0 (t1 / t2)) ≤ 0 then (some (a1 * a3)) else (some (1000000000001 : Int64))) else none)
set_option maxRecDepth 100000 in
set_option maxHeartbeats 4000000 in
theorem wX2_work_217 {p : Program} {l : Launch} {e : Env} {s : State} {m : MethodId} {args : Array Value} {below : List Frame} {meth : Method} {c : Code} {E : GE} {res : Int64} (hc : GM E p s m args meth c RX2 cX2_work 5 (some .long)) : ∀ (S : GS) (t0 : Int64) (t1 : Int64) (t2 : Int64) (a1 : Int64) (a3 : Int64) (H : Heap) (locs : List Loc) (ls : Array Slot), lv_has ls 5 [(1, .long a1), (3, .long a3)] → GX E S H locs → fX2_work_217 S t0 t1 t2 a1 a3 = some res → W p l e rmX2_work s m args below meth c H locs 0 0 (gZ E below args s (some (.long res)) S) (F0 m 217 ls [.long t2, .long t1, .long t0]) := by
  obtain ⟨hx, hb, -, -, -, hown, hts, -, -⟩ := id hc
  intro S t0 t1 t2 a1 a3 H locs ls hl hG h
  unfold fX2_work_217 at h
  obtain ⟨hne1, h⟩ := g_if h
  refine lv_ldiv hx hb dX2_work_217 hne1 ?_
  refine W.lcmp hx hb dX2_work_218 ?_
  refine lv_if_le (tgt := 228) hx hb dX2_work_219 (by decide) (fun c2 => ?_) (fun c2 => ?_)
  · have h := g_pos c2 h
    refine lv_lload_n hx hb dX2_work_228 rfl (lv_at hl 0 rfl) ?_
    refine lv_lload_n hx hb dX2_work_229 rfl (lv_at hl 1 rfl) ?_
    refine lv_lmul hx hb dX2_work_230 ?_
    exact g_lretp hc hG dX2_work_231 h
  · have h := g_neg c2 h
    refine lv_ldc2 (v := (1000000000001 : Int64)) hx hb hown (hts _ kcX2_31) dX2_work_222 ?_
    refine lv_goto (tgt := 231) hx hb dX2_work_225 (by decide) ?_
    exact g_lretp hc hG dX2_work_231 h
def fX2_work_202 (S : GS) (t0 : Int64) (a1 : Int64) (a3 : Int64) : Option Int64 := (if 0 ≤ (lg_cmp a1 (0 : Int64)) then (fX2_work_217 S t0 (1000000000000 : Int64) a1 a1 a3) else (fX2_work_217 S t0 (1000000000000 : Int64) (-a1) a1 a3))
set_option maxRecDepth 100000 in
set_option maxHeartbeats 4000000 in
theorem wX2_work_202 {p : Program} {l : Launch} {e : Env} {s : State} {m : MethodId} {args : Array Value} {below : List Frame} {meth : Method} {c : Code} {E : GE} {res : Int64} (hc : GM E p s m args meth c RX2 cX2_work 5 (some .long)) : ∀ (S : GS) (t0 : Int64) (a1 : Int64) (a3 : Int64) (H : Heap) (locs : List Loc) (ls : Array Slot), lv_has ls 5 [(1, .long a1), (3, .long a3)] → GX E S H locs → fX2_work_202 S t0 a1 a3 = some res → W p l e rmX2_work s m args below meth c H locs 0 0 (gZ E below args s (some (.long res)) S) (F0 m 202 ls [.long t0]) := by
  obtain ⟨hx, hb, -, -, -, hown, hts, -, -⟩ := id hc
  intro S t0 a1 a3 H locs ls hl hG h
  unfold fX2_work_202 at h
  refine lv_ldc2 (v := (1000000000000 : Int64)) hx hb hown (hts _ kcX2_27) dX2_work_202 ?_
  refine lv_lload_n hx hb dX2_work_205 rfl (lv_at hl 0 rfl) ?_
  refine lv_lconst (v := (0 : Int64)) hx hb dX2_work_206 (by decide) ?_
  refine W.lcmp hx hb dX2_work_207 ?_
  refine lv_if_ge (tgt := 216) hx hb dX2_work_208 (by decide) (fun c1 => ?_) (fun c1 => ?_)
  · have h := g_pos c1 h
    refine lv_lload_n hx hb dX2_work_216 rfl (lv_at hl 0 rfl) ?_
    exact wX2_work_217 hc S t0 (1000000000000 : Int64) a1 a1 a3 _ _ _ (lv_sub hl [0, 1] rfl) hG h
  · have h := g_neg c1 h
    refine lv_lload_n hx hb dX2_work_211 rfl (lv_at hl 0 rfl) ?_
    refine lv_lneg hx hb dX2_work_212 ?_
    refine lv_goto (tgt := 217) hx hb dX2_work_213 (by decide) ?_
    exact wX2_work_217 hc S t0 (1000000000000 : Int64) (-a1) a1 a3 _ _ _ (lv_sub hl [0, 1] rfl) hG h
def fX2_work (S : GS) (a0 : Int32) (a1 : Int64) (a3 : Int64) : Option Int64 := (if a0 = (7 : Int32) then (if 0 ≤ (lg_cmp a1 a3) then (some (0 : Int64)) else (some (1 : Int64))) else (if a0 = (8 : Int32) then (if 0 < (lg_cmp a1 a3) then (some (0 : Int64)) else (some (1 : Int64))) else (if a0 = (9 : Int32) then (if (lg_cmp a1 a3) = 0 then (some (1 : Int64)) else (some (0 : Int64))) else (if a0 = (10 : Int32) then (if (lg_cmp a1 a3) = 0 then (some (0 : Int64)) else (some (1 : Int64))) else (if a0 = (11 : Int32) then (if (lg_cmp a1 a3) < 0 then (some (0 : Int64)) else (some (1 : Int64))) else (if a0 = (12 : Int32) then (if (lg_cmp a1 a3) ≤ 0 then (some (0 : Int64)) else (some (1 : Int64))) else (if a0 = (13 : Int32) then (some (a1 + a3)) else (if a0 = (14 : Int32) then (some (a1 - a3)) else (if a0 = (15 : Int32) then (if (lg_cmp a1 (0 : Int64)) = 0 then (some (a1 * a3)) else (if 0 ≤ (lg_cmp a3 (0 : Int64)) then (fX2_work_202 S a3 a1 a3) else (fX2_work_202 S (-a3) a1 a3))) else (if a0 = (16 : Int32) then (if (lg_cmp a3 (0 : Int64)) = 0 then (some (1000000000001 : Int64)) else (if ¬ a3 = 0 then (some (a1 / a3)) else none)) else (if a0 = (17 : Int32) then (some (1000000000001 : Int64)) else (if a0 = (18 : Int32) then (if (lg_cmp a1 (0 : Int64)) = 0 then (some (0 : Int64)) else (if (lg_cmp a3 (0 : Int64)) = 0 then (some (0 : Int64)) else (some (1 : Int64)))) else (if a0 = (19 : Int32) then (if (lg_cmp a1 (0 : Int64)) = 0 then (if (lg_cmp a3 (0 : Int64)) = 0 then (some (0 : Int64)) else (some (1 : Int64))) else (some (1 : Int64))) else (some (1000000000001 : Int64)))))))))))))))
set_option maxRecDepth 100000 in
set_option maxHeartbeats 4000000 in
theorem wX2_work_0 {p : Program} {l : Launch} {e : Env} {s : State} {m : MethodId} {args : Array Value} {below : List Frame} {meth : Method} {c : Code} {E : GE} {res : Int64} (hc : GM E p s m args meth c RX2 cX2_work 5 (some .long)) : ∀ (S : GS) (a0 : Int32) (a1 : Int64) (a3 : Int64) (H : Heap) (locs : List Loc) (ls : Array Slot), lv_has ls 5 [(0, .int a0), (1, .long a1), (3, .long a3)] → GX E S H locs → fX2_work S a0 a1 a3 = some res → W p l e rmX2_work s m args below meth c H locs 0 0 (gZ E below args s (some (.long res)) S) (F0 m 0 ls []) := by
  obtain ⟨hx, hb, -, -, -, hown, hts, -, -⟩ := id hc
  intro S a0 a1 a3 H locs ls hl hG h
  unfold fX2_work at h
  refine lv_iload_n hx hb dX2_work_0 rfl (lv_at hl 0 rfl) ?_
  by_cases c1 : a0 = (7 : Int32)
  · have h := g_pos c1 h
    refine lv_tableIn (off := 103) (tgt := 104) hx hb dX2_work_1 (by rw [c1]; decide) (by rw [c1]; decide) (by rw [c1]; decide) (by decide) ?_
    refine lv_lload_n hx hb dX2_work_104 rfl (lv_at hl 1 rfl) ?_
    refine lv_lload_n hx hb dX2_work_105 rfl (lv_at hl 2 rfl) ?_
    refine W.lcmp hx hb dX2_work_106 ?_
    refine lv_if_ge (tgt := 114) hx hb dX2_work_107 (by decide) (fun c2 => ?_) (fun c2 => ?_)
    · have h := g_pos c2 h
      refine lv_lconst (v := (0 : Int64)) hx hb dX2_work_114 (by decide) ?_
      exact g_lretp hc hG dX2_work_115 h
    · have h := g_neg c2 h
      refine lv_lconst (v := (1 : Int64)) hx hb dX2_work_110 (by decide) ?_
      refine lv_goto (tgt := 115) hx hb dX2_work_111 (by decide) ?_
      exact g_lretp hc hG dX2_work_115 h
  have h := g_neg c1 h
  by_cases c3 : a0 = (8 : Int32)
  · have h := g_pos c3 h
    refine lv_tableIn (off := 115) (tgt := 116) hx hb dX2_work_1 (by rw [c3]; decide) (by rw [c3]; decide) (by rw [c3]; decide) (by decide) ?_
    refine lv_lload_n hx hb dX2_work_116 rfl (lv_at hl 1 rfl) ?_
    refine lv_lload_n hx hb dX2_work_117 rfl (lv_at hl 2 rfl) ?_
    refine W.lcmp hx hb dX2_work_118 ?_
    refine lv_if_gt (tgt := 126) hx hb dX2_work_119 (by decide) (fun c4 => ?_) (fun c4 => ?_)
    · have h := g_pos c4 h
      refine lv_lconst (v := (0 : Int64)) hx hb dX2_work_126 (by decide) ?_
      exact g_lretp hc hG dX2_work_127 h
    · have h := g_neg c4 h
      refine lv_lconst (v := (1 : Int64)) hx hb dX2_work_122 (by decide) ?_
      refine lv_goto (tgt := 127) hx hb dX2_work_123 (by decide) ?_
      exact g_lretp hc hG dX2_work_127 h
  have h := g_neg c3 h
  by_cases c5 : a0 = (9 : Int32)
  · have h := g_pos c5 h
    refine lv_tableIn (off := 127) (tgt := 128) hx hb dX2_work_1 (by rw [c5]; decide) (by rw [c5]; decide) (by rw [c5]; decide) (by decide) ?_
    refine lv_lload_n hx hb dX2_work_128 rfl (lv_at hl 1 rfl) ?_
    refine lv_lload_n hx hb dX2_work_129 rfl (lv_at hl 2 rfl) ?_
    refine W.lcmp hx hb dX2_work_130 ?_
    refine lv_if_ne (tgt := 138) hx hb dX2_work_131 (by decide) (fun c6 => ?_) (fun c6 => ?_)
    · have h := g_neg c6 h
      refine lv_lconst (v := (0 : Int64)) hx hb dX2_work_138 (by decide) ?_
      exact g_lretp hc hG dX2_work_139 h
    · have h := g_pos c6 h
      refine lv_lconst (v := (1 : Int64)) hx hb dX2_work_134 (by decide) ?_
      refine lv_goto (tgt := 139) hx hb dX2_work_135 (by decide) ?_
      exact g_lretp hc hG dX2_work_139 h
  have h := g_neg c5 h
  by_cases c7 : a0 = (10 : Int32)
  · have h := g_pos c7 h
    refine lv_tableIn (off := 139) (tgt := 140) hx hb dX2_work_1 (by rw [c7]; decide) (by rw [c7]; decide) (by rw [c7]; decide) (by decide) ?_
    refine lv_lload_n hx hb dX2_work_140 rfl (lv_at hl 1 rfl) ?_
    refine lv_lload_n hx hb dX2_work_141 rfl (lv_at hl 2 rfl) ?_
    refine W.lcmp hx hb dX2_work_142 ?_
    refine lv_if_eq (tgt := 150) hx hb dX2_work_143 (by decide) (fun c8 => ?_) (fun c8 => ?_)
    · have h := g_pos c8 h
      refine lv_lconst (v := (0 : Int64)) hx hb dX2_work_150 (by decide) ?_
      exact g_lretp hc hG dX2_work_151 h
    · have h := g_neg c8 h
      refine lv_lconst (v := (1 : Int64)) hx hb dX2_work_146 (by decide) ?_
      refine lv_goto (tgt := 151) hx hb dX2_work_147 (by decide) ?_
      exact g_lretp hc hG dX2_work_151 h
  have h := g_neg c7 h
  by_cases c9 : a0 = (11 : Int32)
  · have h := g_pos c9 h
    refine lv_tableIn (off := 151) (tgt := 152) hx hb dX2_work_1 (by rw [c9]; decide) (by rw [c9]; decide) (by rw [c9]; decide) (by decide) ?_
    refine lv_lload_n hx hb dX2_work_152 rfl (lv_at hl 1 rfl) ?_
    refine lv_lload_n hx hb dX2_work_153 rfl (lv_at hl 2 rfl) ?_
    refine W.lcmp hx hb dX2_work_154 ?_
    refine lv_if_lt (tgt := 162) hx hb dX2_work_155 (by decide) (fun c10 => ?_) (fun c10 => ?_)
    · have h := g_pos c10 h
      refine lv_lconst (v := (0 : Int64)) hx hb dX2_work_162 (by decide) ?_
      exact g_lretp hc hG dX2_work_163 h
    · have h := g_neg c10 h
      refine lv_lconst (v := (1 : Int64)) hx hb dX2_work_158 (by decide) ?_
      refine lv_goto (tgt := 163) hx hb dX2_work_159 (by decide) ?_
      exact g_lretp hc hG dX2_work_163 h
  have h := g_neg c9 h
  by_cases c11 : a0 = (12 : Int32)
  · have h := g_pos c11 h
    refine lv_tableIn (off := 163) (tgt := 164) hx hb dX2_work_1 (by rw [c11]; decide) (by rw [c11]; decide) (by rw [c11]; decide) (by decide) ?_
    refine lv_lload_n hx hb dX2_work_164 rfl (lv_at hl 1 rfl) ?_
    refine lv_lload_n hx hb dX2_work_165 rfl (lv_at hl 2 rfl) ?_
    refine W.lcmp hx hb dX2_work_166 ?_
    refine lv_if_le (tgt := 174) hx hb dX2_work_167 (by decide) (fun c12 => ?_) (fun c12 => ?_)
    · have h := g_pos c12 h
      refine lv_lconst (v := (0 : Int64)) hx hb dX2_work_174 (by decide) ?_
      exact g_lretp hc hG dX2_work_175 h
    · have h := g_neg c12 h
      refine lv_lconst (v := (1 : Int64)) hx hb dX2_work_170 (by decide) ?_
      refine lv_goto (tgt := 175) hx hb dX2_work_171 (by decide) ?_
      exact g_lretp hc hG dX2_work_175 h
  have h := g_neg c11 h
  by_cases c13 : a0 = (13 : Int32)
  · have h := g_pos c13 h
    refine lv_tableIn (off := 175) (tgt := 176) hx hb dX2_work_1 (by rw [c13]; decide) (by rw [c13]; decide) (by rw [c13]; decide) (by decide) ?_
    refine lv_lload_n hx hb dX2_work_176 rfl (lv_at hl 1 rfl) ?_
    refine lv_lload_n hx hb dX2_work_177 rfl (lv_at hl 2 rfl) ?_
    refine lv_ladd hx hb dX2_work_178 ?_
    exact g_lretp hc hG dX2_work_179 h
  have h := g_neg c13 h
  by_cases c14 : a0 = (14 : Int32)
  · have h := g_pos c14 h
    refine lv_tableIn (off := 179) (tgt := 180) hx hb dX2_work_1 (by rw [c14]; decide) (by rw [c14]; decide) (by rw [c14]; decide) (by decide) ?_
    refine lv_lload_n hx hb dX2_work_180 rfl (lv_at hl 1 rfl) ?_
    refine lv_lload_n hx hb dX2_work_181 rfl (lv_at hl 2 rfl) ?_
    refine lv_lsub hx hb dX2_work_182 ?_
    exact g_lretp hc hG dX2_work_183 h
  have h := g_neg c14 h
  by_cases c15 : a0 = (15 : Int32)
  · have h := g_pos c15 h
    refine lv_tableIn (off := 183) (tgt := 184) hx hb dX2_work_1 (by rw [c15]; decide) (by rw [c15]; decide) (by rw [c15]; decide) (by decide) ?_
    refine lv_lload_n hx hb dX2_work_184 rfl (lv_at hl 1 rfl) ?_
    refine lv_lconst (v := (0 : Int64)) hx hb dX2_work_185 (by decide) ?_
    refine W.lcmp hx hb dX2_work_186 ?_
    refine lv_if_eq (tgt := 228) hx hb dX2_work_187 (by decide) (fun c16 => ?_) (fun c16 => ?_)
    · have h := g_pos c16 h
      refine lv_lload_n hx hb dX2_work_228 rfl (lv_at hl 1 rfl) ?_
      refine lv_lload_n hx hb dX2_work_229 rfl (lv_at hl 2 rfl) ?_
      refine lv_lmul hx hb dX2_work_230 ?_
      exact g_lretp hc hG dX2_work_231 h
    · have h := g_neg c16 h
      refine lv_lload_n hx hb dX2_work_190 rfl (lv_at hl 2 rfl) ?_
      refine lv_lconst (v := (0 : Int64)) hx hb dX2_work_191 (by decide) ?_
      refine W.lcmp hx hb dX2_work_192 ?_
      refine lv_if_ge (tgt := 201) hx hb dX2_work_193 (by decide) (fun c17 => ?_) (fun c17 => ?_)
      · have h := g_pos c17 h
        refine lv_lload_n hx hb dX2_work_201 rfl (lv_at hl 2 rfl) ?_
        exact wX2_work_202 hc S a3 a1 a3 _ _ _ (lv_sub hl [1, 2] rfl) hG h
      · have h := g_neg c17 h
        refine lv_lload_n hx hb dX2_work_196 rfl (lv_at hl 2 rfl) ?_
        refine lv_lneg hx hb dX2_work_197 ?_
        refine lv_goto (tgt := 202) hx hb dX2_work_198 (by decide) ?_
        exact wX2_work_202 hc S (-a3) a1 a3 _ _ _ (lv_sub hl [1, 2] rfl) hG h
  have h := g_neg c15 h
  by_cases c18 : a0 = (16 : Int32)
  · have h := g_pos c18 h
    refine lv_tableIn (off := 231) (tgt := 232) hx hb dX2_work_1 (by rw [c18]; decide) (by rw [c18]; decide) (by rw [c18]; decide) (by decide) ?_
    refine lv_lload_n hx hb dX2_work_232 rfl (lv_at hl 2 rfl) ?_
    refine lv_lconst (v := (0 : Int64)) hx hb dX2_work_233 (by decide) ?_
    refine W.lcmp hx hb dX2_work_234 ?_
    refine lv_if_ne (tgt := 244) hx hb dX2_work_235 (by decide) (fun c19 => ?_) (fun c19 => ?_)
    · have h := g_neg c19 h
      refine lv_lload_n hx hb dX2_work_244 rfl (lv_at hl 1 rfl) ?_
      refine lv_lload_n hx hb dX2_work_245 rfl (lv_at hl 2 rfl) ?_
      obtain ⟨hne20, h⟩ := g_if h
      refine lv_ldiv hx hb dX2_work_246 hne20 ?_
      exact g_lretp hc hG dX2_work_247 h
    · have h := g_pos c19 h
      refine lv_ldc2 (v := (1000000000001 : Int64)) hx hb hown (hts _ kcX2_31) dX2_work_238 ?_
      refine lv_goto (tgt := 247) hx hb dX2_work_241 (by decide) ?_
      exact g_lretp hc hG dX2_work_247 h
  have h := g_neg c18 h
  by_cases c21 : a0 = (17 : Int32)
  · have h := g_pos c21 h
    refine lv_tableIn (off := 247) (tgt := 248) hx hb dX2_work_1 (by rw [c21]; decide) (by rw [c21]; decide) (by rw [c21]; decide) (by decide) ?_
    refine lv_ldc2 (v := (1000000000001 : Int64)) hx hb hown (hts _ kcX2_31) dX2_work_248 ?_
    exact g_lretp hc hG dX2_work_251 h
  have h := g_neg c21 h
  by_cases c22 : a0 = (18 : Int32)
  · have h := g_pos c22 h
    refine lv_tableIn (off := 85) (tgt := 86) hx hb dX2_work_1 (by rw [c22]; decide) (by rw [c22]; decide) (by rw [c22]; decide) (by decide) ?_
    refine lv_lload_n hx hb dX2_work_86 rfl (lv_at hl 1 rfl) ?_
    refine lv_lconst (v := (0 : Int64)) hx hb dX2_work_87 (by decide) ?_
    refine W.lcmp hx hb dX2_work_88 ?_
    refine lv_if_eq (tgt := 102) hx hb dX2_work_89 (by decide) (fun c23 => ?_) (fun c23 => ?_)
    · have h := g_pos c23 h
      refine lv_lconst (v := (0 : Int64)) hx hb dX2_work_102 (by decide) ?_
      exact g_lretp hc hG dX2_work_103 h
    · have h := g_neg c23 h
      refine lv_lload_n hx hb dX2_work_92 rfl (lv_at hl 2 rfl) ?_
      refine lv_lconst (v := (0 : Int64)) hx hb dX2_work_93 (by decide) ?_
      refine W.lcmp hx hb dX2_work_94 ?_
      refine lv_if_eq (tgt := 102) hx hb dX2_work_95 (by decide) (fun c24 => ?_) (fun c24 => ?_)
      · have h := g_pos c24 h
        refine lv_lconst (v := (0 : Int64)) hx hb dX2_work_102 (by decide) ?_
        exact g_lretp hc hG dX2_work_103 h
      · have h := g_neg c24 h
        refine lv_lconst (v := (1 : Int64)) hx hb dX2_work_98 (by decide) ?_
        refine lv_goto (tgt := 103) hx hb dX2_work_99 (by decide) ?_
        exact g_lretp hc hG dX2_work_103 h
  have h := g_neg c22 h
  by_cases c25 : a0 = (19 : Int32)
  · have h := g_pos c25 h
    refine lv_tableIn (off := 67) (tgt := 68) hx hb dX2_work_1 (by rw [c25]; decide) (by rw [c25]; decide) (by rw [c25]; decide) (by decide) ?_
    refine lv_lload_n hx hb dX2_work_68 rfl (lv_at hl 1 rfl) ?_
    refine lv_lconst (v := (0 : Int64)) hx hb dX2_work_69 (by decide) ?_
    refine W.lcmp hx hb dX2_work_70 ?_
    refine lv_if_ne (tgt := 80) hx hb dX2_work_71 (by decide) (fun c26 => ?_) (fun c26 => ?_)
    · have h := g_neg c26 h
      refine lv_lconst (v := (1 : Int64)) hx hb dX2_work_80 (by decide) ?_
      refine lv_goto (tgt := 85) hx hb dX2_work_81 (by decide) ?_
      exact g_lretp hc hG dX2_work_85 h
    · have h := g_pos c26 h
      refine lv_lload_n hx hb dX2_work_74 rfl (lv_at hl 2 rfl) ?_
      refine lv_lconst (v := (0 : Int64)) hx hb dX2_work_75 (by decide) ?_
      refine W.lcmp hx hb dX2_work_76 ?_
      refine lv_if_eq (tgt := 84) hx hb dX2_work_77 (by decide) (fun c27 => ?_) (fun c27 => ?_)
      · have h := g_pos c27 h
        refine lv_lconst (v := (0 : Int64)) hx hb dX2_work_84 (by decide) ?_
        exact g_lretp hc hG dX2_work_85 h
      · have h := g_neg c27 h
        refine lv_lconst (v := (1 : Int64)) hx hb dX2_work_80 (by decide) ?_
        refine lv_goto (tgt := 85) hx hb dX2_work_81 (by decide) ?_
        exact g_lretp hc hG dX2_work_85 h
  have h := g_neg c25 h
  have zc1 : ¬ Int32.toInt a0 = 7 := fun q => c1 (Int32.toInt_inj.mp (q.trans (by decide)))
  have zc3 : ¬ Int32.toInt a0 = 8 := fun q => c3 (Int32.toInt_inj.mp (q.trans (by decide)))
  have zc5 : ¬ Int32.toInt a0 = 9 := fun q => c5 (Int32.toInt_inj.mp (q.trans (by decide)))
  have zc7 : ¬ Int32.toInt a0 = 10 := fun q => c7 (Int32.toInt_inj.mp (q.trans (by decide)))
  have zc9 : ¬ Int32.toInt a0 = 11 := fun q => c9 (Int32.toInt_inj.mp (q.trans (by decide)))
  have zc11 : ¬ Int32.toInt a0 = 12 := fun q => c11 (Int32.toInt_inj.mp (q.trans (by decide)))
  have zc13 : ¬ Int32.toInt a0 = 13 := fun q => c13 (Int32.toInt_inj.mp (q.trans (by decide)))
  have zc14 : ¬ Int32.toInt a0 = 14 := fun q => c14 (Int32.toInt_inj.mp (q.trans (by decide)))
  have zc15 : ¬ Int32.toInt a0 = 15 := fun q => c15 (Int32.toInt_inj.mp (q.trans (by decide)))
  have zc18 : ¬ Int32.toInt a0 = 16 := fun q => c18 (Int32.toInt_inj.mp (q.trans (by decide)))
  have zc21 : ¬ Int32.toInt a0 = 17 := fun q => c21 (Int32.toInt_inj.mp (q.trans (by decide)))
  have zc22 : ¬ Int32.toInt a0 = 18 := fun q => c22 (Int32.toInt_inj.mp (q.trans (by decide)))
  have zc25 : ¬ Int32.toInt a0 = 19 := fun q => c25 (Int32.toInt_inj.mp (q.trans (by decide)))
  refine lv_tableOut (tgt := 248) hx hb dX2_work_1 (by omega) (by decide) ?_
  refine lv_ldc2 (v := (1000000000001 : Int64)) hx hb hown (hts _ kcX2_31) dX2_work_248 ?_
  exact g_lretp hc hG dX2_work_251 h
theorem mX2_work (l : Launch) (E : GE) {S : GS} {a0 : Int32} {a1 : Int64} {a3 : Int64} {res : Int64} (h : fX2_work S a0 a1 a3 = some res) : gMet l E yX2_work cX2_work 5 (some .long) rmX2_work [.int a0, .long a1, .long a3] S (some (.long res)) S :=
  g_met (by decide) (Nat.le_of_ble_eq_true rfl) rfl fun p e s m below meth c H ls hc hG hl => wX2_work_0 hc S a0 a1 a3 H [] ls hl hG h
abbrev rmX2_isTrue : Room := { frames := 1, cells := 0, slots := 0, locals := 24 }
def fX2_isTrue_109 (k44 : GS → Nat → Int32 → Int32 → Option (Int32 × GS)) (S : GS) (t1 : Int32) (t2 : Int64) (a0 : Nat) (a3 : Int32) (a4 : Int32) : Option (Int32 × GS) := (if gib t1 64 = true then glet (gsl S 51 (t1.toNatClampNeg) t2) fun S2 => glet (a3 + (1 : Int32)) fun v3 => glet (a4 + (1 : Int32)) fun v4 => (k44 S2 a0 v3 v4) else none)
set_option maxRecDepth 100000 in
set_option maxHeartbeats 4000000 in
theorem wX2_isTrue_109 {p : Program} {l : Launch} {e : Env} {s : State} {m : MethodId} {args : Array Value} {below : List Frame} {meth : Method} {c : Code} {E : GE} {res : (Int32 × GS)} {k44 : GS → Nat → Int32 → Int32 → Option (Int32 × GS)} (hc : GM E p s m args meth c RX2 cX2_isTrue 8 (some .boolean)) (hk44 : ∀ (S : GS) (a0 : Nat) (a3 : Int32) (a4 : Int32) (H : Heap) (locs : List Loc) (ls : Array Slot), lv_has ls 8 [(0, gR E a0), (1, gR E 50), (2, gR E 51), (3, .int a3), (4, .int a4)] → GX E S H locs → k44 S a0 a3 a4 = some res → W p l e rmX2_isTrue s m args below meth c H locs 0 0 (gZ E below args s (some (.int res.1)) res.2) (F0 m 44 ls [])) : ∀ (S : GS) (t1 : Int32) (t2 : Int64) (a0 : Nat) (a3 : Int32) (a4 : Int32) (H : Heap) (locs : List Loc) (ls : Array Slot), lv_has ls 8 [(0, gR E a0), (1, gR E 50), (2, gR E 51), (3, .int a3), (4, .int a4)] → GX E S H locs → fX2_isTrue_109 k44 S t1 t2 a0 a3 a4 = some res → W p l e rmX2_isTrue s m args below meth c H locs 0 0 (gZ E below args s (some (.int res.1)) res.2) (F0 m 109 ls [.long t2, .int t1, gR E 51]) := by
  obtain ⟨hx, hb, -, -, -, hown, hts, -, -⟩ := id hc
  intro S t1 t2 a0 a3 a4 H locs ls hl hG h
  unfold fX2_isTrue_109 at h
  obtain ⟨hi1, h⟩ := g_if h
  refine g_last hc hG 51 64 (t1.toNatClampNeg) rfl rfl hi1 rfl dX2_isTrue_109 (fun S2 H locs eS2 hG => ?_)
  have h := g_let eS2 h
  obtain ⟨v3, ev3⟩ : ∃ y : Int32, y = (a3 + (1 : Int32)) := ⟨_, rfl⟩
  have h := g_let ev3 h
  refine lv_iinc (v := v3) (lv' := [(3, .int v3), (0, gR E a0), (1, gR E 50), (2, gR E 51), (4, .int a4)]) hx hb dX2_isTrue_110 hl (k := 3) rfl (by rw [ev3]; rfl) (by decide) rfl (fun ls hl => ?_)
  refine lv_goto (tgt := 201) hx hb dX2_isTrue_113 (by decide) ?_
  obtain ⟨v4, ev4⟩ : ∃ y : Int32, y = (a4 + (1 : Int32)) := ⟨_, rfl⟩
  have h := g_let ev4 h
  refine lv_iinc (v := v4) (lv' := [(4, .int v4), (3, .int v3), (0, gR E a0), (1, gR E 50), (2, gR E 51)]) hx hb dX2_isTrue_201 hl (k := 4) rfl (by rw [ev4]; rfl) (by decide) rfl (fun ls hl => ?_)
  refine lv_goto (tgt := 44) hx hb dX2_isTrue_204 (by decide) ?_
  exact hk44 S2 a0 v3 v4 _ _ _ (lv_sub hl [2, 3, 4, 1, 0] rfl) hG h
def fX2_isTrue_88 (k44 : GS → Nat → Int32 → Int32 → Option (Int32 × GS)) (S : GS) (a0 : Nat) (a3 : Int32) (a4 : Int32) (a5 : Int32) : Option (Int32 × GS) := (if 0 < a5 then (if gib (a5 - (20 : Int32)) 8 = true then (fX2_isTrue_109 k44 S a3 (S.2.1 50 ((a5 - (20 : Int32))).toNatClampNeg) a0 a3 a4) else none) else (fX2_isTrue_109 k44 S a3 (((-a5)).toInt64) a0 a3 a4))
set_option maxRecDepth 100000 in
set_option maxHeartbeats 4000000 in
theorem wX2_isTrue_88 {p : Program} {l : Launch} {e : Env} {s : State} {m : MethodId} {args : Array Value} {below : List Frame} {meth : Method} {c : Code} {E : GE} {res : (Int32 × GS)} {k44 : GS → Nat → Int32 → Int32 → Option (Int32 × GS)} (hc : GM E p s m args meth c RX2 cX2_isTrue 8 (some .boolean)) (hk44 : ∀ (S : GS) (a0 : Nat) (a3 : Int32) (a4 : Int32) (H : Heap) (locs : List Loc) (ls : Array Slot), lv_has ls 8 [(0, gR E a0), (1, gR E 50), (2, gR E 51), (3, .int a3), (4, .int a4)] → GX E S H locs → k44 S a0 a3 a4 = some res → W p l e rmX2_isTrue s m args below meth c H locs 0 0 (gZ E below args s (some (.int res.1)) res.2) (F0 m 44 ls [])) : ∀ (S : GS) (a0 : Nat) (a3 : Int32) (a4 : Int32) (a5 : Int32) (H : Heap) (locs : List Loc) (ls : Array Slot), lv_has ls 8 [(0, gR E a0), (1, gR E 50), (2, gR E 51), (3, .int a3), (4, .int a4), (5, .int a5)] → GX E S H locs → fX2_isTrue_88 k44 S a0 a3 a4 a5 = some res → W p l e rmX2_isTrue s m args below meth c H locs 0 0 (gZ E below args s (some (.int res.1)) res.2) (F0 m 88 ls []) := by
  obtain ⟨hx, hb, -, -, -, hown, hts, -, -⟩ := id hc
  intro S a0 a3 a4 a5 H locs ls hl hG h
  unfold fX2_isTrue_88 at h
  refine lv_aload_n hx hb dX2_isTrue_88 rfl (lv_at hl 2 rfl) ?_
  refine lv_iload_n hx hb dX2_isTrue_89 rfl (lv_at hl 3 rfl) ?_
  refine lv_iload hx hb dX2_isTrue_90 (lv_at hl 5 rfl) ?_
  refine lv_if_gt (tgt := 102) hx hb dX2_isTrue_92 (by decide) (fun c1 => ?_) (fun c1 => ?_)
  · have h := g_pos c1 h
    refine lv_aload_n hx hb dX2_isTrue_102 rfl (lv_at hl 1 rfl) ?_
    refine lv_iload hx hb dX2_isTrue_103 (lv_at hl 5 rfl) ?_
    refine lv_bipush (v := (20 : Int32)) hx hb dX2_isTrue_105 (by decide) ?_
    refine lv_isub hx hb dX2_isTrue_107 ?_
    obtain ⟨hi2, h⟩ := g_if h
    refine g_lald hc hG 50 8 (((a5 - (20 : Int32))).toNatClampNeg) rfl rfl hi2 rfl dX2_isTrue_108 ?_
    exact wX2_isTrue_109 hc hk44 S a3 (S.2.1 50 ((a5 - (20 : Int32))).toNatClampNeg) a0 a3 a4 _ _ _ (lv_sub hl [0, 1, 2, 3, 4] rfl) hG h
  · have h := g_neg c1 h
    refine lv_iload hx hb dX2_isTrue_95 (lv_at hl 5 rfl) ?_
    refine lv_ineg hx hb dX2_isTrue_97 ?_
    refine lv_i2l (v := (((-a5)).toInt64)) hx hb dX2_isTrue_98 rfl ?_
    refine lv_goto (tgt := 109) hx hb dX2_isTrue_99 (by decide) ?_
    exact wX2_isTrue_109 hc hk44 S a3 (((-a5)).toInt64) a0 a3 a4 _ _ _ (lv_sub hl [0, 1, 2, 3, 4] rfl) hG h
def fX2_isTrue_147 (k44 : GS → Nat → Int32 → Int32 → Option (Int32 × GS)) (S : GS) (t1 : Int32) (t2 : Int64) (a0 : Nat) (a3 : Int32) (a4 : Int32) : Option (Int32 × GS) := (if gib t1 64 = true then glet (gsl S 51 (t1.toNatClampNeg) t2) fun S2 => glet (a4 + (1 : Int32)) fun v3 => (k44 S2 a0 a3 v3) else none)
set_option maxRecDepth 100000 in
set_option maxHeartbeats 4000000 in
theorem wX2_isTrue_147 {p : Program} {l : Launch} {e : Env} {s : State} {m : MethodId} {args : Array Value} {below : List Frame} {meth : Method} {c : Code} {E : GE} {res : (Int32 × GS)} {k44 : GS → Nat → Int32 → Int32 → Option (Int32 × GS)} (hc : GM E p s m args meth c RX2 cX2_isTrue 8 (some .boolean)) (hk44 : ∀ (S : GS) (a0 : Nat) (a3 : Int32) (a4 : Int32) (H : Heap) (locs : List Loc) (ls : Array Slot), lv_has ls 8 [(0, gR E a0), (1, gR E 50), (2, gR E 51), (3, .int a3), (4, .int a4)] → GX E S H locs → k44 S a0 a3 a4 = some res → W p l e rmX2_isTrue s m args below meth c H locs 0 0 (gZ E below args s (some (.int res.1)) res.2) (F0 m 44 ls [])) : ∀ (S : GS) (t1 : Int32) (t2 : Int64) (a0 : Nat) (a3 : Int32) (a4 : Int32) (H : Heap) (locs : List Loc) (ls : Array Slot), lv_has ls 8 [(0, gR E a0), (1, gR E 50), (2, gR E 51), (3, .int a3), (4, .int a4)] → GX E S H locs → fX2_isTrue_147 k44 S t1 t2 a0 a3 a4 = some res → W p l e rmX2_isTrue s m args below meth c H locs 0 0 (gZ E below args s (some (.int res.1)) res.2) (F0 m 147 ls [.long t2, .int t1, gR E 51]) := by
  obtain ⟨hx, hb, -, -, -, hown, hts, -, -⟩ := id hc
  intro S t1 t2 a0 a3 a4 H locs ls hl hG h
  unfold fX2_isTrue_147 at h
  obtain ⟨hi1, h⟩ := g_if h
  refine g_last hc hG 51 64 (t1.toNatClampNeg) rfl rfl hi1 rfl dX2_isTrue_147 (fun S2 H locs eS2 hG => ?_)
  have h := g_let eS2 h
  refine lv_goto (tgt := 201) hx hb dX2_isTrue_148 (by decide) ?_
  obtain ⟨v3, ev3⟩ : ∃ y : Int32, y = (a4 + (1 : Int32)) := ⟨_, rfl⟩
  have h := g_let ev3 h
  refine lv_iinc (v := v3) (lv' := [(4, .int v3), (0, gR E a0), (1, gR E 50), (2, gR E 51), (3, .int a3)]) hx hb dX2_isTrue_201 hl (k := 4) rfl (by rw [ev3]; rfl) (by decide) rfl (fun ls hl => ?_)
  refine lv_goto (tgt := 44) hx hb dX2_isTrue_204 (by decide) ?_
  exact hk44 S2 a0 a3 v3 _ _ _ (lv_sub hl [1, 2, 3, 4, 0] rfl) hG h
def fX2_isTrue_151 (k44 : GS → Nat → Int32 → Int32 → Option (Int32 × GS)) (S : GS) (a0 : Nat) (a3 : Int32) (a4 : Int32) (a5 : Int32) : Option (Int32 × GS) := (if a3 < (2 : Int32) then glet (a4 + (1 : Int32)) fun v2 => (k44 S a0 a3 v2) else glet (a3 + (-1 : Int32)) fun v3 => (if gib (v3 - (1 : Int32)) 64 = true then (if gib v3 64 = true then gbv (fX2_work S a5 (S.2.1 51 ((v3 - (1 : Int32))).toNatClampNeg) (S.2.1 51 v3.toNatClampNeg)) fun r7 => (if 0 < (lg_cmp r7 (1000000000000 : Int64)) then (some ((0 : Int32), S)) else (if 0 ≤ (lg_cmp r7 (-1000000000000 : Int64)) then glet (gsl S 51 (((v3 - (1 : Int32))).toNatClampNeg) r7) fun S10 => glet (a4 + (1 : Int32)) fun v11 => (k44 S10 a0 v3 v11) else (some ((0 : Int32), S)))) else none) else none))
set_option maxRecDepth 100000 in
set_option maxHeartbeats 4000000 in
theorem wX2_isTrue_151 {p : Program} {l : Launch} {e : Env} {s : State} {m : MethodId} {args : Array Value} {below : List Frame} {meth : Method} {c : Code} {E : GE} {res : (Int32 × GS)} {k44 : GS → Nat → Int32 → Int32 → Option (Int32 × GS)} (hc : GM E p s m args meth c RX2 cX2_isTrue 8 (some .boolean)) (hk44 : ∀ (S : GS) (a0 : Nat) (a3 : Int32) (a4 : Int32) (H : Heap) (locs : List Loc) (ls : Array Slot), lv_has ls 8 [(0, gR E a0), (1, gR E 50), (2, gR E 51), (3, .int a3), (4, .int a4)] → GX E S H locs → k44 S a0 a3 a4 = some res → W p l e rmX2_isTrue s m args below meth c H locs 0 0 (gZ E below args s (some (.int res.1)) res.2) (F0 m 44 ls [])) : ∀ (S : GS) (a0 : Nat) (a3 : Int32) (a4 : Int32) (a5 : Int32) (H : Heap) (locs : List Loc) (ls : Array Slot), lv_has ls 8 [(0, gR E a0), (1, gR E 50), (2, gR E 51), (3, .int a3), (4, .int a4), (5, .int a5)] → GX E S H locs → fX2_isTrue_151 k44 S a0 a3 a4 a5 = some res → W p l e rmX2_isTrue s m args below meth c H locs 0 0 (gZ E below args s (some (.int res.1)) res.2) (F0 m 151 ls []) := by
  obtain ⟨hx, hb, -, -, -, hown, hts, -, -⟩ := id hc
  intro S a0 a3 a4 a5 H locs ls hl hG h
  unfold fX2_isTrue_151 at h
  refine lv_iload_n hx hb dX2_isTrue_151 rfl (lv_at hl 3 rfl) ?_
  refine lv_iconst (v := (2 : Int32)) hx hb dX2_isTrue_152 (by decide) ?_
  refine lv_icmp_lt (tgt := 201) hx hb dX2_isTrue_153 (by decide) (fun c1 => ?_) (fun c1 => ?_)
  · have h := g_pos c1 h
    obtain ⟨v2, ev2⟩ : ∃ y : Int32, y = (a4 + (1 : Int32)) := ⟨_, rfl⟩
    have h := g_let ev2 h
    refine lv_iinc (v := v2) (lv' := [(4, .int v2), (0, gR E a0), (1, gR E 50), (2, gR E 51), (3, .int a3), (5, .int a5)]) hx hb dX2_isTrue_201 hl (k := 4) rfl (by rw [ev2]; rfl) (by decide) rfl (fun ls hl => ?_)
    refine lv_goto (tgt := 44) hx hb dX2_isTrue_204 (by decide) ?_
    exact hk44 S a0 a3 v2 _ _ _ (lv_sub hl [1, 2, 3, 4, 0] rfl) hG h
  · have h := g_neg c1 h
    obtain ⟨v3, ev3⟩ : ∃ y : Int32, y = (a3 + (-1 : Int32)) := ⟨_, rfl⟩
    have h := g_let ev3 h
    refine lv_iinc (v := v3) (lv' := [(3, .int v3), (0, gR E a0), (1, gR E 50), (2, gR E 51), (4, .int a4), (5, .int a5)]) hx hb dX2_isTrue_156 hl (k := 3) rfl (by rw [ev3]; rfl) (by decide) rfl (fun ls hl => ?_)
    refine lv_iload hx hb dX2_isTrue_159 (lv_at hl 5 rfl) ?_
    refine lv_aload_n hx hb dX2_isTrue_161 rfl (lv_at hl 3 rfl) ?_
    refine lv_iload_n hx hb dX2_isTrue_162 rfl (lv_at hl 0 rfl) ?_
    refine lv_iconst (v := (1 : Int32)) hx hb dX2_isTrue_163 (by decide) ?_
    refine lv_isub hx hb dX2_isTrue_164 ?_
    obtain ⟨hi4, h⟩ := g_if h
    refine g_lald hc hG 51 64 (((v3 - (1 : Int32))).toNatClampNeg) rfl rfl hi4 rfl dX2_isTrue_165 ?_
    refine lv_aload_n hx hb dX2_isTrue_166 rfl (lv_at hl 3 rfl) ?_
    refine lv_iload_n hx hb dX2_isTrue_167 rfl (lv_at hl 0 rfl) ?_
    obtain ⟨hi5, h⟩ := g_if h
    refine g_lald hc hG 51 64 (v3.toNatClampNeg) rfl rfl hi5 rfl dX2_isTrue_168 ?_
    obtain ⟨r7, hm6, h⟩ := g_bv h
    refine g_callSl (As := [.int a5, .long (S.2.1 51 ((v3 - (1 : Int32))).toNatClampNeg), .long (S.2.1 51 v3.toNatClampNeg)]) hc hG (mX2_work l E hm6) mlX2_23 mcX2_work msX2_work rfl hl.1 rfl rfl ⟨by decide, by decide⟩ (Nat.le_of_ble_eq_true rfl) ⟨by decide, by decide⟩ dX2_isTrue_169 rfl (fun H locs hG => ?_)
    refine lv_lstore (lv' := [(6, .long r7), (3, .int v3), (0, gR E a0), (1, gR E 50), (2, gR E 51), (4, .int a4), (5, .int a5)]) hx hb dX2_isTrue_172 hl (by decide) rfl (fun ls hl => ?_)
    refine lv_lload hx hb dX2_isTrue_174 (lv_at hl 0 rfl) ?_
    refine lv_ldc2 (v := (1000000000000 : Int64)) hx hb hown (hts _ kcX2_27) dX2_isTrue_176 ?_
    refine W.lcmp hx hb dX2_isTrue_179 ?_
    refine lv_if_gt (tgt := 192) hx hb dX2_isTrue_180 (by decide) (fun c8 => ?_) (fun c8 => ?_)
    · have h := g_pos c8 h
      refine lv_iconst (v := (0 : Int32)) hx hb dX2_isTrue_192 (by decide) ?_
      exact g_zret hc hG (Or.inl rfl) dX2_isTrue_193 h
    · have h := g_neg c8 h
      refine lv_lload hx hb dX2_isTrue_183 (lv_at hl 0 rfl) ?_
      refine lv_ldc2 (v := (-1000000000000 : Int64)) hx hb hown (hts _ kcX2_29) dX2_isTrue_185 ?_
      refine W.lcmp hx hb dX2_isTrue_188 ?_
      refine lv_if_ge (tgt := 194) hx hb dX2_isTrue_189 (by decide) (fun c9 => ?_) (fun c9 => ?_)
      · have h := g_pos c9 h
        refine lv_aload_n hx hb dX2_isTrue_194 rfl (lv_at hl 4 rfl) ?_
        refine lv_iload_n hx hb dX2_isTrue_195 rfl (lv_at hl 1 rfl) ?_
        refine lv_iconst (v := (1 : Int32)) hx hb dX2_isTrue_196 (by decide) ?_
        refine lv_isub hx hb dX2_isTrue_197 ?_
        refine lv_lload hx hb dX2_isTrue_198 (lv_at hl 0 rfl) ?_
        refine g_last hc hG 51 64 (((v3 - (1 : Int32))).toNatClampNeg) rfl rfl hi4 rfl dX2_isTrue_200 (fun S10 H locs eS10 hG => ?_)
        have h := g_let eS10 h
        obtain ⟨v11, ev11⟩ : ∃ y : Int32, y = (a4 + (1 : Int32)) := ⟨_, rfl⟩
        have h := g_let ev11 h
        refine lv_iinc (v := v11) (lv' := [(4, .int v11), (6, .long r7), (3, .int v3), (0, gR E a0), (1, gR E 50), (2, gR E 51), (5, .int a5)]) hx hb dX2_isTrue_201 hl (k := 5) rfl (by rw [ev11]; rfl) (by decide) rfl (fun ls hl => ?_)
        refine lv_goto (tgt := 44) hx hb dX2_isTrue_204 (by decide) ?_
        exact hk44 S10 a0 v3 v11 _ _ _ (lv_sub hl [3, 4, 5, 2, 0] rfl) hG h
      · have h := g_neg c9 h
        refine lv_iconst (v := (0 : Int32)) hx hb dX2_isTrue_192 (by decide) ?_
        exact g_zret hc hG (Or.inl rfl) dX2_isTrue_193 h
def fX2_isTrue_116 (k44 : GS → Nat → Int32 → Int32 → Option (Int32 × GS)) (S : GS) (a0 : Nat) (a3 : Int32) (a4 : Int32) (a5 : Int32) : Option (Int32 × GS) := (if a5 = (17 : Int32) then (if a3 < (1 : Int32) then (fX2_isTrue_151 k44 S a0 a3 a4 a5) else (if gib (a3 - (1 : Int32)) 64 = true then (if (lg_cmp (S.2.1 51 ((a3 - (1 : Int32))).toNatClampNeg) (0 : Int64)) = 0 then (fX2_isTrue_147 k44 S (a3 - (1 : Int32)) (1 : Int64) a0 a3 a4) else (fX2_isTrue_147 k44 S (a3 - (1 : Int32)) (0 : Int64) a0 a3 a4)) else none)) else (fX2_isTrue_151 k44 S a0 a3 a4 a5))
set_option maxRecDepth 100000 in
set_option maxHeartbeats 4000000 in
theorem wX2_isTrue_116 {p : Program} {l : Launch} {e : Env} {s : State} {m : MethodId} {args : Array Value} {below : List Frame} {meth : Method} {c : Code} {E : GE} {res : (Int32 × GS)} {k44 : GS → Nat → Int32 → Int32 → Option (Int32 × GS)} (hc : GM E p s m args meth c RX2 cX2_isTrue 8 (some .boolean)) (hk44 : ∀ (S : GS) (a0 : Nat) (a3 : Int32) (a4 : Int32) (H : Heap) (locs : List Loc) (ls : Array Slot), lv_has ls 8 [(0, gR E a0), (1, gR E 50), (2, gR E 51), (3, .int a3), (4, .int a4)] → GX E S H locs → k44 S a0 a3 a4 = some res → W p l e rmX2_isTrue s m args below meth c H locs 0 0 (gZ E below args s (some (.int res.1)) res.2) (F0 m 44 ls [])) : ∀ (S : GS) (a0 : Nat) (a3 : Int32) (a4 : Int32) (a5 : Int32) (H : Heap) (locs : List Loc) (ls : Array Slot), lv_has ls 8 [(0, gR E a0), (1, gR E 50), (2, gR E 51), (3, .int a3), (4, .int a4), (5, .int a5)] → GX E S H locs → fX2_isTrue_116 k44 S a0 a3 a4 a5 = some res → W p l e rmX2_isTrue s m args below meth c H locs 0 0 (gZ E below args s (some (.int res.1)) res.2) (F0 m 116 ls []) := by
  obtain ⟨hx, hb, -, -, -, hown, hts, -, -⟩ := id hc
  intro S a0 a3 a4 a5 H locs ls hl hG h
  unfold fX2_isTrue_116 at h
  refine lv_iload hx hb dX2_isTrue_116 (lv_at hl 5 rfl) ?_
  refine lv_bipush (v := (17 : Int32)) hx hb dX2_isTrue_118 (by decide) ?_
  refine lv_icmp_ne (tgt := 151) hx hb dX2_isTrue_120 (by decide) (fun c1 => ?_) (fun c1 => ?_)
  · have h := g_neg c1 h
    exact wX2_isTrue_151 hc hk44 S a0 a3 a4 a5 _ _ _ (lv_sub hl [0, 1, 2, 3, 4, 5] rfl) hG h
  · have h := g_pos c1 h
    refine lv_iload_n hx hb dX2_isTrue_123 rfl (lv_at hl 3 rfl) ?_
    refine lv_iconst (v := (1 : Int32)) hx hb dX2_isTrue_124 (by decide) ?_
    refine lv_icmp_lt (tgt := 151) hx hb dX2_isTrue_125 (by decide) (fun c2 => ?_) (fun c2 => ?_)
    · have h := g_pos c2 h
      exact wX2_isTrue_151 hc hk44 S a0 a3 a4 a5 _ _ _ (lv_sub hl [0, 1, 2, 3, 4, 5] rfl) hG h
    · have h := g_neg c2 h
      refine lv_aload_n hx hb dX2_isTrue_128 rfl (lv_at hl 2 rfl) ?_
      refine lv_iload_n hx hb dX2_isTrue_129 rfl (lv_at hl 3 rfl) ?_
      refine lv_iconst (v := (1 : Int32)) hx hb dX2_isTrue_130 (by decide) ?_
      refine lv_isub hx hb dX2_isTrue_131 ?_
      refine lv_aload_n hx hb dX2_isTrue_132 rfl (lv_at hl 2 rfl) ?_
      refine lv_iload_n hx hb dX2_isTrue_133 rfl (lv_at hl 3 rfl) ?_
      refine lv_iconst (v := (1 : Int32)) hx hb dX2_isTrue_134 (by decide) ?_
      refine lv_isub hx hb dX2_isTrue_135 ?_
      obtain ⟨hi3, h⟩ := g_if h
      refine g_lald hc hG 51 64 (((a3 - (1 : Int32))).toNatClampNeg) rfl rfl hi3 rfl dX2_isTrue_136 ?_
      refine lv_lconst (v := (0 : Int64)) hx hb dX2_isTrue_137 (by decide) ?_
      refine W.lcmp hx hb dX2_isTrue_138 ?_
      refine lv_if_ne (tgt := 146) hx hb dX2_isTrue_139 (by decide) (fun c4 => ?_) (fun c4 => ?_)
      · have h := g_neg c4 h
        refine lv_lconst (v := (0 : Int64)) hx hb dX2_isTrue_146 (by decide) ?_
        exact wX2_isTrue_147 hc hk44 S (a3 - (1 : Int32)) (0 : Int64) a0 a3 a4 _ _ _ (lv_sub hl [0, 1, 2, 3, 4] rfl) hG h
      · have h := g_pos c4 h
        refine lv_lconst (v := (1 : Int64)) hx hb dX2_isTrue_142 (by decide) ?_
        refine lv_goto (tgt := 147) hx hb dX2_isTrue_143 (by decide) ?_
        exact wX2_isTrue_147 hc hk44 S (a3 - (1 : Int32)) (1 : Int64) a0 a3 a4 _ _ _ (lv_sub hl [0, 1, 2, 3, 4] rfl) hG h
def fX2_isTrue_207 (S : GS) (a3 : Int32) : Option (Int32 × GS) := (if a3 = (1 : Int32) then (if (lg_cmp (S.2.1 51 0) (0 : Int64)) = 0 then (some ((0 : Int32), S)) else (some ((1 : Int32), S))) else (some ((0 : Int32), S)))
set_option maxRecDepth 100000 in
set_option maxHeartbeats 4000000 in
theorem wX2_isTrue_207 {p : Program} {l : Launch} {e : Env} {s : State} {m : MethodId} {args : Array Value} {below : List Frame} {meth : Method} {c : Code} {E : GE} {res : (Int32 × GS)} (hc : GM E p s m args meth c RX2 cX2_isTrue 8 (some .boolean)) : ∀ (S : GS) (a3 : Int32) (H : Heap) (locs : List Loc) (ls : Array Slot), lv_has ls 8 [(2, gR E 51), (3, .int a3)] → GX E S H locs → fX2_isTrue_207 S a3 = some res → W p l e rmX2_isTrue s m args below meth c H locs 0 0 (gZ E below args s (some (.int res.1)) res.2) (F0 m 207 ls []) := by
  obtain ⟨hx, hb, -, -, -, hown, hts, -, -⟩ := id hc
  intro S a3 H locs ls hl hG h
  unfold fX2_isTrue_207 at h
  refine lv_iload_n hx hb dX2_isTrue_207 rfl (lv_at hl 1 rfl) ?_
  refine lv_iconst (v := (1 : Int32)) hx hb dX2_isTrue_208 (by decide) ?_
  refine lv_icmp_ne (tgt := 224) hx hb dX2_isTrue_209 (by decide) (fun c1 => ?_) (fun c1 => ?_)
  · have h := g_neg c1 h
    refine lv_iconst (v := (0 : Int32)) hx hb dX2_isTrue_224 (by decide) ?_
    exact g_zret hc hG (Or.inl rfl) dX2_isTrue_225 h
  · have h := g_pos c1 h
    refine lv_aload_n hx hb dX2_isTrue_212 rfl (lv_at hl 0 rfl) ?_
    refine lv_iconst (v := (0 : Int32)) hx hb dX2_isTrue_213 (by decide) ?_
    refine g_lald hc hG 51 64 (0) rfl rfl (by decide) (by decide) dX2_isTrue_214 ?_
    refine lv_lconst (v := (0 : Int64)) hx hb dX2_isTrue_215 (by decide) ?_
    refine W.lcmp hx hb dX2_isTrue_216 ?_
    refine lv_if_eq (tgt := 224) hx hb dX2_isTrue_217 (by decide) (fun c2 => ?_) (fun c2 => ?_)
    · have h := g_pos c2 h
      refine lv_iconst (v := (0 : Int32)) hx hb dX2_isTrue_224 (by decide) ?_
      exact g_zret hc hG (Or.inl rfl) dX2_isTrue_225 h
    · have h := g_neg c2 h
      refine lv_iconst (v := (1 : Int32)) hx hb dX2_isTrue_220 (by decide) ?_
      refine lv_goto (tgt := 225) hx hb dX2_isTrue_221 (by decide) ?_
      exact g_zret hc hG (Or.inr rfl) dX2_isTrue_225 h
def fX2_isTrue_44 : Nat → GS → Nat → Int32 → Int32 → Option (Int32 × GS)
  | 0, _, _, _, _ => none
  | n + 1, S, a0, a3, a4 => (if gk a0 = 2 then (if (S.1 a0 1) ≤ a4 then (fX2_isTrue_207 S a3) else (if (64 : Int32) ≤ a3 then (fX2_isTrue_207 S a3) else (if gk (gr S.2.2 a0 2) = 12 then (if gib a4 (gn (gr S.2.2 a0 2)) = true then glet (-(S.1 (gr S.2.2 a0 2) a4.toNatClampNeg)) fun v6 => (if v6 ≤ 0 then (fX2_isTrue_88 (fX2_isTrue_44 n) S a0 a3 a4 v6) else (if v6 < (20 : Int32) then (fX2_isTrue_116 (fX2_isTrue_44 n) S a0 a3 a4 v6) else (if (27 : Int32) < v6 then (fX2_isTrue_116 (fX2_isTrue_44 n) S a0 a3 a4 v6) else (fX2_isTrue_88 (fX2_isTrue_44 n) S a0 a3 a4 v6)))) else none) else none))) else none)
set_option maxRecDepth 100000 in
set_option maxHeartbeats 4000000 in
theorem wX2_isTrue_44 {p : Program} {l : Launch} {e : Env} {s : State} {m : MethodId} {args : Array Value} {below : List Frame} {meth : Method} {c : Code} {E : GE} {res : (Int32 × GS)} (hc : GM E p s m args meth c RX2 cX2_isTrue 8 (some .boolean)) : ∀ (n : Nat), ∀ (S : GS) (a0 : Nat) (a3 : Int32) (a4 : Int32) (H : Heap) (locs : List Loc) (ls : Array Slot), lv_has ls 8 [(0, gR E a0), (1, gR E 50), (2, gR E 51), (3, .int a3), (4, .int a4)] → GX E S H locs → fX2_isTrue_44 n S a0 a3 a4 = some res → W p l e rmX2_isTrue s m args below meth c H locs 0 0 (gZ E below args s (some (.int res.1)) res.2) (F0 m 44 ls []) := by
  obtain ⟨hx, hb, -, -, -, hown, hts, -, -⟩ := id hc
  intro n
  induction n with
  | zero => intro S a0 a3 a4 H locs ls hl hG h; cases h
  | succ n ih =>
    intro S a0 a3 a4 H locs ls hl hG h
    rw [fX2_isTrue_44] at h
    refine lv_iload hx hb dX2_isTrue_44 (lv_at hl 4 rfl) ?_
    refine lv_aload_n hx hb dX2_isTrue_46 rfl (lv_at hl 0 rfl) ?_
    obtain ⟨hk1, h⟩ := g_if h
    refine g_getI hc hG a0 flX2_19 hk1 rfl dX2_isTrue_47 ?_
    refine lv_icmp_ge (tgt := 207) hx hb dX2_isTrue_50 (by decide) (fun c2 => ?_) (fun c2 => ?_)
    · have h := g_pos c2 h
      exact wX2_isTrue_207 hc S a3 _ _ _ (lv_sub hl [2, 3] rfl) hG h
    · have h := g_neg c2 h
      refine lv_iload_n hx hb dX2_isTrue_53 rfl (lv_at hl 3 rfl) ?_
      refine lv_aload_n hx hb dX2_isTrue_54 rfl (lv_at hl 2 rfl) ?_
      refine g_alen hc hG 51 (by decide) (v := (64 : Int32)) (by decide) dX2_isTrue_55 ?_
      refine lv_icmp_ge (tgt := 207) hx hb dX2_isTrue_56 (by decide) (fun c3 => ?_) (fun c3 => ?_)
      · have h := g_pos c3 h
        exact wX2_isTrue_207 hc S a3 _ _ _ (lv_sub hl [2, 3] rfl) hG h
      · have h := g_neg c3 h
        refine lv_aload_n hx hb dX2_isTrue_59 rfl (lv_at hl 0 rfl) ?_
        refine g_getR hc hG a0 (gr S.2.2 a0 2) flX2_9 hk1 rfl rfl dX2_isTrue_60 ?_
        refine lv_iload hx hb dX2_isTrue_63 (lv_at hl 4 rfl) ?_
        obtain ⟨hk4, h⟩ := g_if h
        obtain ⟨hi5, h⟩ := g_if h
        refine g_iald hc hG (gr S.2.2 a0 2) (gn (gr S.2.2 a0 2)) (a4.toNatClampNeg) hk4 rfl hi5 rfl dX2_isTrue_65 ?_
        refine lv_ineg hx hb dX2_isTrue_66 ?_
        refine lv_topi (fun v6 ev6 => ?_)
        have h := g_let ev6 h
        refine lv_istore (lv' := [(5, .int v6), (0, gR E a0), (1, gR E 50), (2, gR E 51), (3, .int a3), (4, .int a4)]) hx hb dX2_isTrue_67 hl (by decide) rfl (fun ls hl => ?_)
        refine lv_iload hx hb dX2_isTrue_69 (lv_at hl 0 rfl) ?_
        refine lv_if_le (tgt := 88) hx hb dX2_isTrue_71 (by decide) (fun c7 => ?_) (fun c7 => ?_)
        · have h := g_pos c7 h
          exact wX2_isTrue_88 hc ih S a0 a3 a4 v6 _ _ _ (lv_sub hl [1, 2, 3, 4, 5, 0] rfl) hG h
        · have h := g_neg c7 h
          refine lv_iload hx hb dX2_isTrue_74 (lv_at hl 0 rfl) ?_
          refine lv_bipush (v := (20 : Int32)) hx hb dX2_isTrue_76 (by decide) ?_
          refine lv_icmp_lt (tgt := 116) hx hb dX2_isTrue_78 (by decide) (fun c8 => ?_) (fun c8 => ?_)
          · have h := g_pos c8 h
            exact wX2_isTrue_116 hc ih S a0 a3 a4 v6 _ _ _ (lv_sub hl [1, 2, 3, 4, 5, 0] rfl) hG h
          · have h := g_neg c8 h
            refine lv_iload hx hb dX2_isTrue_81 (lv_at hl 0 rfl) ?_
            refine lv_bipush (v := (27 : Int32)) hx hb dX2_isTrue_83 (by decide) ?_
            refine lv_icmp_gt (tgt := 116) hx hb dX2_isTrue_85 (by decide) (fun c9 => ?_) (fun c9 => ?_)
            · have h := g_pos c9 h
              exact wX2_isTrue_116 hc ih S a0 a3 a4 v6 _ _ _ (lv_sub hl [1, 2, 3, 4, 5, 0] rfl) hG h
            · have h := g_neg c9 h
              exact wX2_isTrue_88 hc ih S a0 a3 a4 v6 _ _ _ (lv_sub hl [1, 2, 3, 4, 5, 0] rfl) hG h
def fX2_isTrue (S : GS) (a0 : Nat) : Option (Int32 × GS) := (if gk a0 = 2 then (if (S.1 a0 0) = 0 then (if (lg_cmp (S.2.1 50 3) (0 : Int64)) = 0 then (some ((0 : Int32), S)) else (if 0 < (lg_cmp (S.2.1 50 0) (S.2.1 50 1)) then (some ((1 : Int32), S)) else (if (lg_cmp (S.2.1 50 2) (0 : Int64)) = 0 then (some ((0 : Int32), S)) else (some ((1 : Int32), S))))) else glet (0 : Int32) fun v3 => glet (0 : Int32) fun v4 => (fX2_isTrue_44 FU S a0 v3 v4)) else none)
set_option maxRecDepth 100000 in
set_option maxHeartbeats 4000000 in
theorem wX2_isTrue_0 {p : Program} {l : Launch} {e : Env} {s : State} {m : MethodId} {args : Array Value} {below : List Frame} {meth : Method} {c : Code} {E : GE} {res : (Int32 × GS)} (hc : GM E p s m args meth c RX2 cX2_isTrue 8 (some .boolean)) : ∀ (S : GS) (a0 : Nat) (H : Heap) (locs : List Loc) (ls : Array Slot), lv_has ls 8 [(0, gR E a0), (1, gR E 50), (2, gR E 51)] → GX E S H locs → fX2_isTrue S a0 = some res → W p l e rmX2_isTrue s m args below meth c H locs 0 0 (gZ E below args s (some (.int res.1)) res.2) (F0 m 0 ls []) := by
  obtain ⟨hx, hb, -, -, -, hown, hts, -, -⟩ := id hc
  intro S a0 H locs ls hl hG h
  unfold fX2_isTrue at h
  refine lv_aload_n hx hb dX2_isTrue_0 rfl (lv_at hl 0 rfl) ?_
  obtain ⟨hk1, h⟩ := g_if h
  refine g_getI hc hG a0 flX2_15 hk1 rfl dX2_isTrue_1 ?_
  refine lv_if_ne (tgt := 39) hx hb dX2_isTrue_4 (by decide) (fun c2 => ?_) (fun c2 => ?_)
  · have h := g_neg c2 h
    refine lv_iconst (v := (0 : Int32)) hx hb dX2_isTrue_39 (by decide) ?_
    refine lv_topi (fun v3 ev3 => ?_)
    have h := g_let ev3 h
    refine lv_istore_n (lv' := [(3, .int v3), (0, gR E a0), (1, gR E 50), (2, gR E 51)]) hx hb dX2_isTrue_40 rfl hl (by decide) rfl (fun ls hl => ?_)
    refine lv_iconst (v := (0 : Int32)) hx hb dX2_isTrue_41 (by decide) ?_
    refine lv_topi (fun v4 ev4 => ?_)
    have h := g_let ev4 h
    refine lv_istore (lv' := [(4, .int v4), (3, .int v3), (0, gR E a0), (1, gR E 50), (2, gR E 51)]) hx hb dX2_isTrue_42 hl (by decide) rfl (fun ls hl => ?_)
    exact wX2_isTrue_44 hc FU S a0 v3 v4 _ _ _ (lv_sub hl [2, 3, 4, 1, 0] rfl) hG h
  · have h := g_pos c2 h
    refine lv_aload_n hx hb dX2_isTrue_7 rfl (lv_at hl 1 rfl) ?_
    refine lv_iconst (v := (3 : Int32)) hx hb dX2_isTrue_8 (by decide) ?_
    refine g_lald hc hG 50 8 (3) rfl rfl (by decide) (by decide) dX2_isTrue_9 ?_
    refine lv_lconst (v := (0 : Int64)) hx hb dX2_isTrue_10 (by decide) ?_
    refine W.lcmp hx hb dX2_isTrue_11 ?_
    refine lv_if_eq (tgt := 37) hx hb dX2_isTrue_12 (by decide) (fun c5 => ?_) (fun c5 => ?_)
    · have h := g_pos c5 h
      refine lv_iconst (v := (0 : Int32)) hx hb dX2_isTrue_37 (by decide) ?_
      exact g_zret hc hG (Or.inl rfl) dX2_isTrue_38 h
    · have h := g_neg c5 h
      refine lv_aload_n hx hb dX2_isTrue_15 rfl (lv_at hl 1 rfl) ?_
      refine lv_iconst (v := (0 : Int32)) hx hb dX2_isTrue_16 (by decide) ?_
      refine g_lald hc hG 50 8 (0) rfl rfl (by decide) (by decide) dX2_isTrue_17 ?_
      refine lv_aload_n hx hb dX2_isTrue_18 rfl (lv_at hl 1 rfl) ?_
      refine lv_iconst (v := (1 : Int32)) hx hb dX2_isTrue_19 (by decide) ?_
      refine g_lald hc hG 50 8 (1) rfl rfl (by decide) (by decide) dX2_isTrue_20 ?_
      refine W.lcmp hx hb dX2_isTrue_21 ?_
      refine lv_if_gt (tgt := 33) hx hb dX2_isTrue_22 (by decide) (fun c6 => ?_) (fun c6 => ?_)
      · have h := g_pos c6 h
        refine lv_iconst (v := (1 : Int32)) hx hb dX2_isTrue_33 (by decide) ?_
        refine lv_goto (tgt := 38) hx hb dX2_isTrue_34 (by decide) ?_
        exact g_zret hc hG (Or.inr rfl) dX2_isTrue_38 h
      · have h := g_neg c6 h
        refine lv_aload_n hx hb dX2_isTrue_25 rfl (lv_at hl 1 rfl) ?_
        refine lv_iconst (v := (2 : Int32)) hx hb dX2_isTrue_26 (by decide) ?_
        refine g_lald hc hG 50 8 (2) rfl rfl (by decide) (by decide) dX2_isTrue_27 ?_
        refine lv_lconst (v := (0 : Int64)) hx hb dX2_isTrue_28 (by decide) ?_
        refine W.lcmp hx hb dX2_isTrue_29 ?_
        refine lv_if_eq (tgt := 37) hx hb dX2_isTrue_30 (by decide) (fun c7 => ?_) (fun c7 => ?_)
        · have h := g_pos c7 h
          refine lv_iconst (v := (0 : Int32)) hx hb dX2_isTrue_37 (by decide) ?_
          exact g_zret hc hG (Or.inl rfl) dX2_isTrue_38 h
        · have h := g_neg c7 h
          refine lv_iconst (v := (1 : Int32)) hx hb dX2_isTrue_33 (by decide) ?_
          refine lv_goto (tgt := 38) hx hb dX2_isTrue_34 (by decide) ?_
          exact g_zret hc hG (Or.inr rfl) dX2_isTrue_38 h
theorem mX2_isTrue (l : Launch) (E : GE) {S : GS} {a0 : Nat} {res : (Int32 × GS)} (h : fX2_isTrue S a0 = some res) : gMet l E yX2_isTrue cX2_isTrue 8 (some .boolean) rmX2_isTrue [gR E a0, gR E 50, gR E 51] S (some (.int res.1)) res.2 :=
  g_met (by decide) (Nat.le_of_ble_eq_true rfl) rfl fun p e s m below meth c H ls hc hG hl => wX2_isTrue_0 hc S a0 H [] ls hl hG h
abbrev rmX3_seeCases : Room := { frames := 0, cells := 0, slots := 0, locals := 0 }
def fX3_seeCases_7 : Nat → GS → Int32 → Int32 → Int32 → Option (Unit × GS)
  | 0, _, _, _, _ => none
  | n + 1, S, a1, a2, a3 => (if (S.1 7 0) ≤ a3 then (some ((), S)) else (if a3 = a2 then glet (a3 + (1 : Int32)) fun v3 => (fX3_seeCases_7 n S a1 a2 v3) else (if gib a3 32 = true then (if a1 < (S.1 12 a3.toNatClampNeg) then glet (a3 + (1 : Int32)) fun v6 => (fX3_seeCases_7 n S a1 a2 v6) else glet (gsi S 36 3 ((S.1 36 3) ||| ((1 : Int32) <<< (a3 &&& 31)))) fun S7 => glet (a3 + (1 : Int32)) fun v8 => (fX3_seeCases_7 n S7 a1 a2 v8)) else none)))
set_option maxRecDepth 100000 in
set_option maxHeartbeats 4000000 in
theorem wX3_seeCases_7 {p : Program} {l : Launch} {e : Env} {s : State} {m : MethodId} {args : Array Value} {below : List Frame} {meth : Method} {c : Code} {E : GE} {res : (Unit × GS)} (hc : GM E p s m args meth c RX3 cX3_seeCases 4 none) : ∀ (n : Nat), ∀ (S : GS) (a1 : Int32) (a2 : Int32) (a3 : Int32) (H : Heap) (locs : List Loc) (ls : Array Slot), lv_has ls 4 [(0, gR E 36), (1, .int a1), (2, .int a2), (3, .int a3)] → GX E S H locs → fX3_seeCases_7 n S a1 a2 a3 = some res → W p l e rmX3_seeCases s m args below meth c H locs 0 0 (gZ E below args s none res.2) (F0 m 7 ls []) := by
  obtain ⟨hx, hb, -, -, -, hown, hts, -, -⟩ := id hc
  intro n
  induction n with
  | zero => intro S a1 a2 a3 H locs ls hl hG h; cases h
  | succ n ih =>
    intro S a1 a2 a3 H locs ls hl hG h
    rw [fX3_seeCases_7] at h
    refine lv_iload_n hx hb dX3_seeCases_7 rfl (lv_at hl 3 rfl) ?_
    refine lv_aload_n hx hb dX3_seeCases_8 rfl (lv_at hl 0 rfl) ?_
    refine g_getR hc hG 36 7 flX3_49 rfl rfl rfl dX3_seeCases_9 ?_
    refine g_getI hc hG 7 flX3_88 rfl rfl dX3_seeCases_12 ?_
    refine lv_icmp_ge (tgt := 54) hx hb dX3_seeCases_15 (by decide) (fun c1 => ?_) (fun c1 => ?_)
    · have h := g_pos c1 h
      exact g_vret hc hG dX3_seeCases_54 h
    · have h := g_neg c1 h
      refine lv_iload_n hx hb dX3_seeCases_18 rfl (lv_at hl 3 rfl) ?_
      refine lv_iload_n hx hb dX3_seeCases_19 rfl (lv_at hl 2 rfl) ?_
      refine lv_icmp_eq (tgt := 48) hx hb dX3_seeCases_20 (by decide) (fun c2 => ?_) (fun c2 => ?_)
      · have h := g_pos c2 h
        obtain ⟨v3, ev3⟩ : ∃ y : Int32, y = (a3 + (1 : Int32)) := ⟨_, rfl⟩
        have h := g_let ev3 h
        refine lv_iinc (v := v3) (lv' := [(3, .int v3), (0, gR E 36), (1, .int a1), (2, .int a2)]) hx hb dX3_seeCases_48 hl (k := 3) rfl (by rw [ev3]; rfl) (by decide) rfl (fun ls hl => ?_)
        refine lv_goto (tgt := 7) hx hb dX3_seeCases_51 (by decide) ?_
        exact ih S a1 a2 v3 _ _ _ (lv_sub hl [1, 2, 3, 0] rfl) hG h
      · have h := g_neg c2 h
        refine lv_aload_n hx hb dX3_seeCases_23 rfl (lv_at hl 0 rfl) ?_
        refine g_getR hc hG 36 7 flX3_49 rfl rfl rfl dX3_seeCases_24 ?_
        refine g_getR hc hG 7 12 flX3_93 rfl rfl rfl dX3_seeCases_27 ?_
        refine lv_iload_n hx hb dX3_seeCases_30 rfl (lv_at hl 3 rfl) ?_
        obtain ⟨hi4, h⟩ := g_if h
        refine g_iald hc hG 12 32 (a3.toNatClampNeg) rfl rfl hi4 rfl dX3_seeCases_31 ?_
        refine lv_iload_n hx hb dX3_seeCases_32 rfl (lv_at hl 1 rfl) ?_
        refine lv_icmp_gt (tgt := 48) hx hb dX3_seeCases_33 (by decide) (fun c5 => ?_) (fun c5 => ?_)
        · have h := g_pos c5 h
          obtain ⟨v6, ev6⟩ : ∃ y : Int32, y = (a3 + (1 : Int32)) := ⟨_, rfl⟩
          have h := g_let ev6 h
          refine lv_iinc (v := v6) (lv' := [(3, .int v6), (0, gR E 36), (1, .int a1), (2, .int a2)]) hx hb dX3_seeCases_48 hl (k := 3) rfl (by rw [ev6]; rfl) (by decide) rfl (fun ls hl => ?_)
          refine lv_goto (tgt := 7) hx hb dX3_seeCases_51 (by decide) ?_
          exact ih S a1 a2 v6 _ _ _ (lv_sub hl [1, 2, 3, 0] rfl) hG h
        · have h := g_neg c5 h
          refine lv_aload_n hx hb dX3_seeCases_36 rfl (lv_at hl 0 rfl) ?_
          refine lv_dup hx hb dX3_seeCases_37 rfl ?_
          refine g_getI hc hG 36 flX3_80 rfl rfl dX3_seeCases_38 ?_
          refine lv_iconst (v := (1 : Int32)) hx hb dX3_seeCases_41 (by decide) ?_
          refine lv_iload_n hx hb dX3_seeCases_42 rfl (lv_at hl 3 rfl) ?_
          refine lv_ishl hx hb dX3_seeCases_43 ?_
          refine lv_ior hx hb dX3_seeCases_44 ?_
          refine g_putI hc hG 36 fpX3_80 rfl rfl rfl rfl dX3_seeCases_45 (fun S7 H locs eS7 hG => ?_)
          have h := g_let eS7 h
          obtain ⟨v8, ev8⟩ : ∃ y : Int32, y = (a3 + (1 : Int32)) := ⟨_, rfl⟩
          have h := g_let ev8 h
          refine lv_iinc (v := v8) (lv' := [(3, .int v8), (0, gR E 36), (1, .int a1), (2, .int a2)]) hx hb dX3_seeCases_48 hl (k := 3) rfl (by rw [ev8]; rfl) (by decide) rfl (fun ls hl => ?_)
          refine lv_goto (tgt := 7) hx hb dX3_seeCases_51 (by decide) ?_
          exact ih S7 a1 a2 v8 _ _ _ (lv_sub hl [1, 2, 3, 0] rfl) hG h
def fX3_seeCases (S : GS) (a1 : Int32) (a2 : Int32) : Option (Unit × GS) := glet (gsi S 36 3 (0 : Int32)) fun S1 => glet (0 : Int32) fun v2 => (fX3_seeCases_7 FU S1 a1 a2 v2)
set_option maxRecDepth 100000 in
set_option maxHeartbeats 4000000 in
theorem wX3_seeCases_0 {p : Program} {l : Launch} {e : Env} {s : State} {m : MethodId} {args : Array Value} {below : List Frame} {meth : Method} {c : Code} {E : GE} {res : (Unit × GS)} (hc : GM E p s m args meth c RX3 cX3_seeCases 4 none) : ∀ (S : GS) (a1 : Int32) (a2 : Int32) (H : Heap) (locs : List Loc) (ls : Array Slot), lv_has ls 4 [(0, gR E 36), (1, .int a1), (2, .int a2)] → GX E S H locs → fX3_seeCases S a1 a2 = some res → W p l e rmX3_seeCases s m args below meth c H locs 0 0 (gZ E below args s none res.2) (F0 m 0 ls []) := by
  obtain ⟨hx, hb, -, -, -, hown, hts, -, -⟩ := id hc
  intro S a1 a2 H locs ls hl hG h
  unfold fX3_seeCases at h
  refine lv_aload_n hx hb dX3_seeCases_0 rfl (lv_at hl 0 rfl) ?_
  refine lv_iconst (v := (0 : Int32)) hx hb dX3_seeCases_1 (by decide) ?_
  refine g_putI hc hG 36 fpX3_80 rfl rfl rfl rfl dX3_seeCases_2 (fun S1 H locs eS1 hG => ?_)
  have h := g_let eS1 h
  refine lv_iconst (v := (0 : Int32)) hx hb dX3_seeCases_5 (by decide) ?_
  refine lv_topi (fun v2 ev2 => ?_)
  have h := g_let ev2 h
  refine lv_istore_n (lv' := [(3, .int v2), (0, gR E 36), (1, .int a1), (2, .int a2)]) hx hb dX3_seeCases_6 rfl hl (by decide) rfl (fun ls hl => ?_)
  exact wX3_seeCases_7 hc FU S1 a1 a2 v2 _ _ _ (lv_sub hl [1, 2, 3, 0] rfl) hG h
theorem mX3_seeCases (l : Launch) (E : GE) {S : GS} {a1 : Int32} {a2 : Int32} {res : (Unit × GS)} (h : fX3_seeCases S a1 a2 = some res) : gMet l E yX3_seeCases cX3_seeCases 4 none rmX3_seeCases [gR E 36, .int a1, .int a2] S none res.2 :=
  g_met (by decide) (Nat.le_of_ble_eq_true rfl) rfl fun p e s m below meth c H ls hc hG hl => wX3_seeCases_0 hc S a1 a2 H [] ls hl hG h
abbrev rmX10_has : Room := { frames := 0, cells := 0, slots := 0, locals := 0 }
def fX10_has (S : GS) (a0 : Int32) (a1 : Int32) : Option Int32 := (if ((gush a0 a1) &&& (1 : Int32)) = 0 then (some (0 : Int32)) else (some (1 : Int32)))
set_option maxRecDepth 100000 in
set_option maxHeartbeats 4000000 in
theorem wX10_has_0 {p : Program} {l : Launch} {e : Env} {s : State} {m : MethodId} {args : Array Value} {below : List Frame} {meth : Method} {c : Code} {E : GE} {res : Int32} (hc : GM E p s m args meth c RX10 cX10_has 2 (some .boolean)) : ∀ (S : GS) (a0 : Int32) (a1 : Int32) (H : Heap) (locs : List Loc) (ls : Array Slot), lv_has ls 2 [(0, .int a0), (1, .int a1)] → GX E S H locs → fX10_has S a0 a1 = some res → W p l e rmX10_has s m args below meth c H locs 0 0 (gZ E below args s (some (.int res)) S) (F0 m 0 ls []) := by
  obtain ⟨hx, hb, -, -, -, hown, hts, -, -⟩ := id hc
  intro S a0 a1 H locs ls hl hG h
  unfold fX10_has at h
  refine lv_iload_n hx hb dX10_has_0 rfl (lv_at hl 0 rfl) ?_
  refine lv_iload_n hx hb dX10_has_1 rfl (lv_at hl 1 rfl) ?_
  refine lv_iushr (v := (gush a0 a1)) hx hb dX10_has_2 rfl ?_
  refine lv_iconst (v := (1 : Int32)) hx hb dX10_has_3 (by decide) ?_
  refine lv_iand hx hb dX10_has_4 ?_
  refine lv_if_eq (tgt := 12) hx hb dX10_has_5 (by decide) (fun c1 => ?_) (fun c1 => ?_)
  · have h := g_pos c1 h
    refine lv_iconst (v := (0 : Int32)) hx hb dX10_has_12 (by decide) ?_
    exact g_zretp hc hG (Or.inl rfl) dX10_has_13 h
  · have h := g_neg c1 h
    refine lv_iconst (v := (1 : Int32)) hx hb dX10_has_8 (by decide) ?_
    refine lv_goto (tgt := 13) hx hb dX10_has_9 (by decide) ?_
    exact g_zretp hc hG (Or.inr rfl) dX10_has_13 h
theorem mX10_has (l : Launch) (E : GE) {S : GS} {a0 : Int32} {a1 : Int32} {res : Int32} (h : fX10_has S a0 a1 = some res) : gMet l E yX10_has cX10_has 2 (some .boolean) rmX10_has [.int a0, .int a1] S (some (.int res)) S :=
  g_met (by decide) (Nat.le_of_ble_eq_true rfl) rfl fun p e s m below meth c H ls hc hG hl => wX10_has_0 hc S a0 a1 H [] ls hl hG h
abbrev rmX3_sees : Room := { frames := 1, cells := 0, slots := 0, locals := 21 }
def fX3_sees (S : GS) (a1 : Int32) : Option Int32 := gbv (fX10_has S (S.1 36 3) a1) fun r2 => (if (r2 = 0 ∨ r2 = 1) then (some r2) else none)
set_option maxRecDepth 100000 in
set_option maxHeartbeats 4000000 in
theorem wX3_sees_0 {p : Program} {l : Launch} {e : Env} {s : State} {m : MethodId} {args : Array Value} {below : List Frame} {meth : Method} {c : Code} {E : GE} {res : Int32} (hc : GM E p s m args meth c RX3 cX3_sees 2 (some .boolean)) : ∀ (S : GS) (a1 : Int32) (H : Heap) (locs : List Loc) (ls : Array Slot), lv_has ls 2 [(0, gR E 36), (1, .int a1)] → GX E S H locs → fX3_sees S a1 = some res → W p l e rmX3_sees s m args below meth c H locs 0 0 (gZ E below args s (some (.int res)) S) (F0 m 0 ls []) := by
  obtain ⟨hx, hb, -, -, -, hown, hts, -, -⟩ := id hc
  intro S a1 H locs ls hl hG h
  unfold fX3_sees at h
  refine lv_aload_n hx hb dX3_sees_0 rfl (lv_at hl 0 rfl) ?_
  refine g_getI hc hG 36 flX3_80 rfl rfl dX3_sees_1 ?_
  refine lv_iload_n hx hb dX3_sees_4 rfl (lv_at hl 1 rfl) ?_
  obtain ⟨r2, hm1, h⟩ := g_bv h
  refine g_callSNi (As := [.int (S.1 36 3), .int a1]) hc hG (mX10_has l E hm1) mlX3_84 mcX10_has msX10_has rfl hl.1 rfl rfl ⟨by decide, by decide⟩ (Nat.le_of_ble_eq_true rfl) ⟨by decide, by decide⟩ dX3_sees_5 rfl (fun H locs hG => ?_)
  obtain ⟨hz3, h⟩ := g_if h
  exact g_zretp hc hG hz3 dX3_sees_8 h
theorem mX3_sees (l : Launch) (E : GE) {S : GS} {a1 : Int32} {res : Int32} (h : fX3_sees S a1 = some res) : gMet l E yX3_sees cX3_sees 2 (some .boolean) rmX3_sees [gR E 36, .int a1] S (some (.int res)) S :=
  g_met (by decide) (Nat.le_of_ble_eq_true rfl) rfl fun p e s m below meth c H ls hc hG hl => wX3_sees_0 hc S a1 H [] ls hl hG h
abbrev rmX3_isOfSeenCases : Room := { frames := 2, cells := 0, slots := 0, locals := 42 }
def fX3_isOfSeenCases (S : GS) (a1 : Int32) : Option Int32 := (if gib a1 120 = true then glet (S.1 15 a1.toNatClampNeg) fun v2 => (if v2 ≤ (4 : Int32) then gbv (fX3_sees S (S.1 17 a1.toNatClampNeg)) fun r5 => (if r5 = 0 then (some (0 : Int32)) else (if v2 ≤ (1 : Int32) then (some (1 : Int32)) else gbv (fX3_sees S (S.1 18 a1.toNatClampNeg)) fun r9 => (if r9 = 0 then (some (0 : Int32)) else (some (1 : Int32))))) else (some (1 : Int32))) else none)
set_option maxRecDepth 100000 in
set_option maxHeartbeats 4000000 in
theorem wX3_isOfSeenCases_0 {p : Program} {l : Launch} {e : Env} {s : State} {m : MethodId} {args : Array Value} {below : List Frame} {meth : Method} {c : Code} {E : GE} {res : Int32} (hc : GM E p s m args meth c RX3 cX3_isOfSeenCases 3 (some .boolean)) : ∀ (S : GS) (a1 : Int32) (H : Heap) (locs : List Loc) (ls : Array Slot), lv_has ls 3 [(0, gR E 36), (1, .int a1)] → GX E S H locs → fX3_isOfSeenCases S a1 = some res → W p l e rmX3_isOfSeenCases s m args below meth c H locs 0 0 (gZ E below args s (some (.int res)) S) (F0 m 0 ls []) := by
  obtain ⟨hx, hb, -, -, -, hown, hts, -, -⟩ := id hc
  intro S a1 H locs ls hl hG h
  unfold fX3_isOfSeenCases at h
  refine lv_aload_n hx hb dX3_isOfSeenCases_0 rfl (lv_at hl 0 rfl) ?_
  refine g_getR hc hG 36 14 flX3_53 rfl rfl rfl dX3_isOfSeenCases_1 ?_
  refine g_getR hc hG 14 15 flX3_104 rfl rfl rfl dX3_isOfSeenCases_4 ?_
  refine lv_iload_n hx hb dX3_isOfSeenCases_7 rfl (lv_at hl 1 rfl) ?_
  obtain ⟨hi1, h⟩ := g_if h
  refine g_iald hc hG 15 120 (a1.toNatClampNeg) rfl rfl hi1 rfl dX3_isOfSeenCases_8 ?_
  refine lv_topi (fun v2 ev2 => ?_)
  have h := g_let ev2 h
  refine lv_istore_n (lv' := [(2, .int v2), (0, gR E 36), (1, .int a1)]) hx hb dX3_isOfSeenCases_9 rfl hl (by decide) rfl (fun ls hl => ?_)
  refine lv_iload_n hx hb dX3_isOfSeenCases_10 rfl (lv_at hl 0 rfl) ?_
  refine lv_iconst (v := (4 : Int32)) hx hb dX3_isOfSeenCases_11 (by decide) ?_
  refine lv_icmp_le (tgt := 17) hx hb dX3_isOfSeenCases_12 (by decide) (fun c3 => ?_) (fun c3 => ?_)
  · have h := g_pos c3 h
    refine lv_aload_n hx hb dX3_isOfSeenCases_17 rfl (lv_at hl 1 rfl) ?_
    refine lv_aload_n hx hb dX3_isOfSeenCases_18 rfl (lv_at hl 1 rfl) ?_
    refine g_getR hc hG 36 14 flX3_53 rfl rfl rfl dX3_isOfSeenCases_19 ?_
    refine g_getR hc hG 14 17 flX3_110 rfl rfl rfl dX3_isOfSeenCases_22 ?_
    refine lv_iload_n hx hb dX3_isOfSeenCases_25 rfl (lv_at hl 2 rfl) ?_
    refine g_iald hc hG 17 120 (a1.toNatClampNeg) rfl rfl hi1 rfl dX3_isOfSeenCases_26 ?_
    obtain ⟨r5, hm4, h⟩ := g_bv h
    refine g_callVi (As := [.int (S.1 17 a1.toNatClampNeg)]) hc hG (mX3_sees l E hm4) mlX3_113 mcX3_sees miX3_sees rfl rfl rfl rfl hl.1 rfl rfl ⟨by decide, by decide⟩ (Nat.le_of_ble_eq_true rfl) ⟨by decide, by decide⟩ dX3_isOfSeenCases_27 rfl (fun H locs hG => ?_)
    refine lv_if_eq (tgt := 58) hx hb dX3_isOfSeenCases_30 (by decide) (fun c6 => ?_) (fun c6 => ?_)
    · have h := g_pos c6 h
      refine lv_iconst (v := (0 : Int32)) hx hb dX3_isOfSeenCases_58 (by decide) ?_
      exact g_zretp hc hG (Or.inl rfl) dX3_isOfSeenCases_59 h
    · have h := g_neg c6 h
      refine lv_iload_n hx hb dX3_isOfSeenCases_33 rfl (lv_at hl 0 rfl) ?_
      refine lv_iconst (v := (1 : Int32)) hx hb dX3_isOfSeenCases_34 (by decide) ?_
      refine lv_icmp_le (tgt := 54) hx hb dX3_isOfSeenCases_35 (by decide) (fun c7 => ?_) (fun c7 => ?_)
      · have h := g_pos c7 h
        refine lv_iconst (v := (1 : Int32)) hx hb dX3_isOfSeenCases_54 (by decide) ?_
        refine lv_goto (tgt := 59) hx hb dX3_isOfSeenCases_55 (by decide) ?_
        exact g_zretp hc hG (Or.inr rfl) dX3_isOfSeenCases_59 h
      · have h := g_neg c7 h
        refine lv_aload_n hx hb dX3_isOfSeenCases_38 rfl (lv_at hl 1 rfl) ?_
        refine lv_aload_n hx hb dX3_isOfSeenCases_39 rfl (lv_at hl 1 rfl) ?_
        refine g_getR hc hG 36 14 flX3_53 rfl rfl rfl dX3_isOfSeenCases_40 ?_
        refine g_getR hc hG 14 18 flX3_107 rfl rfl rfl dX3_isOfSeenCases_43 ?_
        refine lv_iload_n hx hb dX3_isOfSeenCases_46 rfl (lv_at hl 2 rfl) ?_
        refine g_iald hc hG 18 120 (a1.toNatClampNeg) rfl rfl hi1 rfl dX3_isOfSeenCases_47 ?_
        obtain ⟨r9, hm8, h⟩ := g_bv h
        refine g_callVi (As := [.int (S.1 18 a1.toNatClampNeg)]) hc hG (mX3_sees l E hm8) mlX3_113 mcX3_sees miX3_sees rfl rfl rfl rfl hl.1 rfl rfl ⟨by decide, by decide⟩ (Nat.le_of_ble_eq_true rfl) ⟨by decide, by decide⟩ dX3_isOfSeenCases_48 rfl (fun H locs hG => ?_)
        refine lv_if_eq (tgt := 58) hx hb dX3_isOfSeenCases_51 (by decide) (fun c10 => ?_) (fun c10 => ?_)
        · have h := g_pos c10 h
          refine lv_iconst (v := (0 : Int32)) hx hb dX3_isOfSeenCases_58 (by decide) ?_
          exact g_zretp hc hG (Or.inl rfl) dX3_isOfSeenCases_59 h
        · have h := g_neg c10 h
          refine lv_iconst (v := (1 : Int32)) hx hb dX3_isOfSeenCases_54 (by decide) ?_
          refine lv_goto (tgt := 59) hx hb dX3_isOfSeenCases_55 (by decide) ?_
          exact g_zretp hc hG (Or.inr rfl) dX3_isOfSeenCases_59 h
  · have h := g_neg c3 h
    refine lv_iconst (v := (1 : Int32)) hx hb dX3_isOfSeenCases_15 (by decide) ?_
    exact g_zretp hc hG (Or.inr rfl) dX3_isOfSeenCases_16 h
theorem mX3_isOfSeenCases (l : Launch) (E : GE) {S : GS} {a1 : Int32} {res : Int32} (h : fX3_isOfSeenCases S a1 = some res) : gMet l E yX3_isOfSeenCases cX3_isOfSeenCases 3 (some .boolean) rmX3_isOfSeenCases [gR E 36, .int a1] S (some (.int res)) S :=
  g_met (by decide) (Nat.le_of_ble_eq_true rfl) rfl fun p e s m below meth c H ls hc hG hl => wX3_isOfSeenCases_0 hc S a1 H [] ls hl hG h
abbrev rmX3_seeNotes : Room := { frames := 3, cells := 0, slots := 0, locals := 64 }
def fX3_seeNotes_43 (k2 : GS → Int32 → Int32 → Option (Unit × GS)) (S : GS) (t1 : Int32) (a1 : Int32) (a2 : Int32) : Option (Unit × GS) := (if gib t1 120 = true then glet (gsi S 47 (t1.toNatClampNeg) (0 : Int32)) fun S2 => glet (a2 + (1 : Int32)) fun v3 => (k2 S2 a1 v3) else none)
set_option maxRecDepth 100000 in
set_option maxHeartbeats 4000000 in
theorem wX3_seeNotes_43 {p : Program} {l : Launch} {e : Env} {s : State} {m : MethodId} {args : Array Value} {below : List Frame} {meth : Method} {c : Code} {E : GE} {res : (Unit × GS)} {k2 : GS → Int32 → Int32 → Option (Unit × GS)} (hc : GM E p s m args meth c RX3 cX3_seeNotes 3 none) (hk2 : ∀ (S : GS) (a1 : Int32) (a2 : Int32) (H : Heap) (locs : List Loc) (ls : Array Slot), lv_has ls 3 [(0, gR E 36), (1, .int a1), (2, .int a2)] → GX E S H locs → k2 S a1 a2 = some res → W p l e rmX3_seeNotes s m args below meth c H locs 0 0 (gZ E below args s none res.2) (F0 m 2 ls [])) : ∀ (S : GS) (t1 : Int32) (a1 : Int32) (a2 : Int32) (H : Heap) (locs : List Loc) (ls : Array Slot), lv_has ls 3 [(0, gR E 36), (1, .int a1), (2, .int a2)] → GX E S H locs → fX3_seeNotes_43 k2 S t1 a1 a2 = some res → W p l e rmX3_seeNotes s m args below meth c H locs 0 0 (gZ E below args s none res.2) (F0 m 43 ls [.int t1, gR E 47]) := by
  obtain ⟨hx, hb, -, -, -, hown, hts, -, -⟩ := id hc
  intro S t1 a1 a2 H locs ls hl hG h
  unfold fX3_seeNotes_43 at h
  refine lv_iconst (v := (0 : Int32)) hx hb dX3_seeNotes_43 (by decide) ?_
  obtain ⟨hi1, h⟩ := g_if h
  refine g_iast hc hG 47 120 (t1.toNatClampNeg) rfl rfl hi1 rfl dX3_seeNotes_44 (fun S2 H locs eS2 hG => ?_)
  have h := g_let eS2 h
  obtain ⟨v3, ev3⟩ : ∃ y : Int32, y = (a2 + (1 : Int32)) := ⟨_, rfl⟩
  have h := g_let ev3 h
  refine lv_iinc (v := v3) (lv' := [(2, .int v3), (0, gR E 36), (1, .int a1)]) hx hb dX3_seeNotes_45 hl (k := 2) rfl (by rw [ev3]; rfl) (by decide) rfl (fun ls hl => ?_)
  refine lv_goto (tgt := 2) hx hb dX3_seeNotes_48 (by decide) ?_
  exact hk2 S2 a1 v3 _ _ _ (lv_sub hl [1, 2, 0] rfl) hG h
def fX3_seeNotes_61 : Nat → GS → Int32 → Option (Unit × GS)
  | 0, _, _ => none
  | n + 1, S, a2 => (if a2 < 0 then (some ((), S)) else (if gib a2 120 = true then (if (S.1 47 a2.toNatClampNeg) = 0 then glet (a2 + (-1 : Int32)) fun v4 => (fX3_seeNotes_61 n S v4) else (if (S.1 15 a2.toNatClampNeg) = (8 : Int32) then (if gib (S.1 18 a2.toNatClampNeg) 120 = true then glet (gsi S 47 (((S.1 18 a2.toNatClampNeg)).toNatClampNeg) (0 : Int32)) fun S8 => glet (a2 + (-1 : Int32)) fun v9 => (fX3_seeNotes_61 n S8 v9) else none) else glet (a2 + (-1 : Int32)) fun v6 => (fX3_seeNotes_61 n S v6))) else none))
set_option maxRecDepth 100000 in
set_option maxHeartbeats 4000000 in
theorem wX3_seeNotes_61 {p : Program} {l : Launch} {e : Env} {s : State} {m : MethodId} {args : Array Value} {below : List Frame} {meth : Method} {c : Code} {E : GE} {res : (Unit × GS)} (hc : GM E p s m args meth c RX3 cX3_seeNotes 3 none) : ∀ (n : Nat), ∀ (S : GS) (a2 : Int32) (H : Heap) (locs : List Loc) (ls : Array Slot), lv_has ls 3 [(0, gR E 36), (2, .int a2)] → GX E S H locs → fX3_seeNotes_61 n S a2 = some res → W p l e rmX3_seeNotes s m args below meth c H locs 0 0 (gZ E below args s none res.2) (F0 m 61 ls []) := by
  obtain ⟨hx, hb, -, -, -, hown, hts, -, -⟩ := id hc
  intro n
  induction n with
  | zero => intro S a2 H locs ls hl hG h; cases h
  | succ n ih =>
    intro S a2 H locs ls hl hG h
    rw [fX3_seeNotes_61] at h
    refine lv_iload_n hx hb dX3_seeNotes_61 rfl (lv_at hl 1 rfl) ?_
    refine lv_if_lt (tgt := 109) hx hb dX3_seeNotes_62 (by decide) (fun c1 => ?_) (fun c1 => ?_)
    · have h := g_pos c1 h
      exact g_vret hc hG dX3_seeNotes_109 h
    · have h := g_neg c1 h
      refine lv_aload_n hx hb dX3_seeNotes_65 rfl (lv_at hl 0 rfl) ?_
      refine g_getR hc hG 36 47 flX3_42 rfl rfl rfl dX3_seeNotes_66 ?_
      refine lv_iload_n hx hb dX3_seeNotes_69 rfl (lv_at hl 1 rfl) ?_
      obtain ⟨hi2, h⟩ := g_if h
      refine g_iald hc hG 47 120 (a2.toNatClampNeg) rfl rfl hi2 rfl dX3_seeNotes_70 ?_
      refine lv_if_eq (tgt := 103) hx hb dX3_seeNotes_71 (by decide) (fun c3 => ?_) (fun c3 => ?_)
      · have h := g_pos c3 h
        obtain ⟨v4, ev4⟩ : ∃ y : Int32, y = (a2 + (-1 : Int32)) := ⟨_, rfl⟩
        have h := g_let ev4 h
        refine lv_iinc (v := v4) (lv' := [(2, .int v4), (0, gR E 36)]) hx hb dX3_seeNotes_103 hl (k := 1) rfl (by rw [ev4]; rfl) (by decide) rfl (fun ls hl => ?_)
        refine lv_goto (tgt := 61) hx hb dX3_seeNotes_106 (by decide) ?_
        exact ih S v4 _ _ _ (lv_sub hl [1, 0] rfl) hG h
      · have h := g_neg c3 h
        refine lv_aload_n hx hb dX3_seeNotes_74 rfl (lv_at hl 0 rfl) ?_
        refine g_getR hc hG 36 14 flX3_53 rfl rfl rfl dX3_seeNotes_75 ?_
        refine g_getR hc hG 14 15 flX3_104 rfl rfl rfl dX3_seeNotes_78 ?_
        refine lv_iload_n hx hb dX3_seeNotes_81 rfl (lv_at hl 1 rfl) ?_
        refine g_iald hc hG 15 120 (a2.toNatClampNeg) rfl rfl hi2 rfl dX3_seeNotes_82 ?_
        refine lv_bipush (v := (8 : Int32)) hx hb dX3_seeNotes_83 (by decide) ?_
        refine lv_icmp_ne (tgt := 103) hx hb dX3_seeNotes_85 (by decide) (fun c5 => ?_) (fun c5 => ?_)
        · have h := g_neg c5 h
          obtain ⟨v6, ev6⟩ : ∃ y : Int32, y = (a2 + (-1 : Int32)) := ⟨_, rfl⟩
          have h := g_let ev6 h
          refine lv_iinc (v := v6) (lv' := [(2, .int v6), (0, gR E 36)]) hx hb dX3_seeNotes_103 hl (k := 1) rfl (by rw [ev6]; rfl) (by decide) rfl (fun ls hl => ?_)
          refine lv_goto (tgt := 61) hx hb dX3_seeNotes_106 (by decide) ?_
          exact ih S v6 _ _ _ (lv_sub hl [1, 0] rfl) hG h
        · have h := g_pos c5 h
          refine lv_aload_n hx hb dX3_seeNotes_88 rfl (lv_at hl 0 rfl) ?_
          refine g_getR hc hG 36 47 flX3_42 rfl rfl rfl dX3_seeNotes_89 ?_
          refine lv_aload_n hx hb dX3_seeNotes_92 rfl (lv_at hl 0 rfl) ?_
          refine g_getR hc hG 36 14 flX3_53 rfl rfl rfl dX3_seeNotes_93 ?_
          refine g_getR hc hG 14 18 flX3_107 rfl rfl rfl dX3_seeNotes_96 ?_
          refine lv_iload_n hx hb dX3_seeNotes_99 rfl (lv_at hl 1 rfl) ?_
          refine g_iald hc hG 18 120 (a2.toNatClampNeg) rfl rfl hi2 rfl dX3_seeNotes_100 ?_
          refine lv_iconst (v := (0 : Int32)) hx hb dX3_seeNotes_101 (by decide) ?_
          obtain ⟨hi7, h⟩ := g_if h
          refine g_iast hc hG 47 120 (((S.1 18 a2.toNatClampNeg)).toNatClampNeg) rfl rfl hi7 rfl dX3_seeNotes_102 (fun S8 H locs eS8 hG => ?_)
          have h := g_let eS8 h
          obtain ⟨v9, ev9⟩ : ∃ y : Int32, y = (a2 + (-1 : Int32)) := ⟨_, rfl⟩
          have h := g_let ev9 h
          refine lv_iinc (v := v9) (lv' := [(2, .int v9), (0, gR E 36)]) hx hb dX3_seeNotes_103 hl (k := 1) rfl (by rw [ev9]; rfl) (by decide) rfl (fun ls hl => ?_)
          refine lv_goto (tgt := 61) hx hb dX3_seeNotes_106 (by decide) ?_
          exact ih S8 v9 _ _ _ (lv_sub hl [1, 0] rfl) hG h
def fX3_seeNotes_2 : Nat → GS → Int32 → Int32 → Option (Unit × GS)
  | 0, _, _, _ => none
  | n + 1, S, a1, a2 => (if (S.1 14 0) ≤ a2 then glet ((S.1 14 0) - (1 : Int32)) fun v2 => (fX3_seeNotes_61 FU S v2) else (if gib a2 120 = true then (if a1 < (S.1 16 a2.toNatClampNeg) then (fX3_seeNotes_43 (fX3_seeNotes_2 n) S a2 a1 a2) else gbv (fX3_isOfSeenCases S a2) fun r6 => (if r6 = 0 then (fX3_seeNotes_43 (fX3_seeNotes_2 n) S a2 a1 a2) else glet (gsi S 47 (a2.toNatClampNeg) (1 : Int32)) fun S8 => glet (a2 + (1 : Int32)) fun v9 => (fX3_seeNotes_2 n S8 a1 v9))) else none))
set_option maxRecDepth 100000 in
set_option maxHeartbeats 4000000 in
theorem wX3_seeNotes_2 {p : Program} {l : Launch} {e : Env} {s : State} {m : MethodId} {args : Array Value} {below : List Frame} {meth : Method} {c : Code} {E : GE} {res : (Unit × GS)} (hc : GM E p s m args meth c RX3 cX3_seeNotes 3 none) : ∀ (n : Nat), ∀ (S : GS) (a1 : Int32) (a2 : Int32) (H : Heap) (locs : List Loc) (ls : Array Slot), lv_has ls 3 [(0, gR E 36), (1, .int a1), (2, .int a2)] → GX E S H locs → fX3_seeNotes_2 n S a1 a2 = some res → W p l e rmX3_seeNotes s m args below meth c H locs 0 0 (gZ E below args s none res.2) (F0 m 2 ls []) := by
  obtain ⟨hx, hb, -, -, -, hown, hts, -, -⟩ := id hc
  intro n
  induction n with
  | zero => intro S a1 a2 H locs ls hl hG h; cases h
  | succ n ih =>
    intro S a1 a2 H locs ls hl hG h
    rw [fX3_seeNotes_2] at h
    refine lv_iload_n hx hb dX3_seeNotes_2 rfl (lv_at hl 2 rfl) ?_
    refine lv_aload_n hx hb dX3_seeNotes_3 rfl (lv_at hl 0 rfl) ?_
    refine g_getR hc hG 36 14 flX3_53 rfl rfl rfl dX3_seeNotes_4 ?_
    refine g_getI hc hG 14 flX3_96 rfl rfl dX3_seeNotes_7 ?_
    refine lv_icmp_ge (tgt := 51) hx hb dX3_seeNotes_10 (by decide) (fun c1 => ?_) (fun c1 => ?_)
    · have h := g_pos c1 h
      refine lv_aload_n hx hb dX3_seeNotes_51 rfl (lv_at hl 0 rfl) ?_
      refine g_getR hc hG 36 14 flX3_53 rfl rfl rfl dX3_seeNotes_52 ?_
      refine g_getI hc hG 14 flX3_96 rfl rfl dX3_seeNotes_55 ?_
      refine lv_iconst (v := (1 : Int32)) hx hb dX3_seeNotes_58 (by decide) ?_
      refine lv_isub hx hb dX3_seeNotes_59 ?_
      refine lv_topi (fun v2 ev2 => ?_)
      have h := g_let ev2 h
      refine lv_istore_n (lv' := [(2, .int v2), (0, gR E 36), (1, .int a1)]) hx hb dX3_seeNotes_60 rfl hl (by decide) rfl (fun ls hl => ?_)
      exact wX3_seeNotes_61 hc FU S v2 _ _ _ (lv_sub hl [1, 0] rfl) hG h
    · have h := g_neg c1 h
      refine lv_aload_n hx hb dX3_seeNotes_13 rfl (lv_at hl 0 rfl) ?_
      refine g_getR hc hG 36 47 flX3_42 rfl rfl rfl dX3_seeNotes_14 ?_
      refine lv_iload_n hx hb dX3_seeNotes_17 rfl (lv_at hl 2 rfl) ?_
      refine lv_aload_n hx hb dX3_seeNotes_18 rfl (lv_at hl 0 rfl) ?_
      refine g_getR hc hG 36 14 flX3_53 rfl rfl rfl dX3_seeNotes_19 ?_
      refine g_getR hc hG 14 16 flX3_99 rfl rfl rfl dX3_seeNotes_22 ?_
      refine lv_iload_n hx hb dX3_seeNotes_25 rfl (lv_at hl 2 rfl) ?_
      obtain ⟨hi3, h⟩ := g_if h
      refine g_iald hc hG 16 120 (a2.toNatClampNeg) rfl rfl hi3 rfl dX3_seeNotes_26 ?_
      refine lv_iload_n hx hb dX3_seeNotes_27 rfl (lv_at hl 1 rfl) ?_
      refine lv_icmp_gt (tgt := 43) hx hb dX3_seeNotes_28 (by decide) (fun c4 => ?_) (fun c4 => ?_)
      · have h := g_pos c4 h
        exact wX3_seeNotes_43 hc ih S a2 a1 a2 _ _ _ (lv_sub hl [0, 1, 2] rfl) hG h
      · have h := g_neg c4 h
        refine lv_aload_n hx hb dX3_seeNotes_31 rfl (lv_at hl 0 rfl) ?_
        refine lv_iload_n hx hb dX3_seeNotes_32 rfl (lv_at hl 2 rfl) ?_
        obtain ⟨r6, hm5, h⟩ := g_bv h
        refine g_callVi (As := [.int a2]) hc hG (mX3_isOfSeenCases l E hm5) mlX3_100 mcX3_isOfSeenCases miX3_isOfSeenCases rfl rfl rfl rfl hl.1 rfl rfl ⟨by decide, by decide⟩ (Nat.le_of_ble_eq_true rfl) ⟨by decide, by decide⟩ dX3_seeNotes_33 rfl (fun H locs hG => ?_)
        refine lv_if_eq (tgt := 43) hx hb dX3_seeNotes_36 (by decide) (fun c7 => ?_) (fun c7 => ?_)
        · have h := g_pos c7 h
          exact wX3_seeNotes_43 hc ih S a2 a1 a2 _ _ _ (lv_sub hl [0, 1, 2] rfl) hG h
        · have h := g_neg c7 h
          refine lv_iconst (v := (1 : Int32)) hx hb dX3_seeNotes_39 (by decide) ?_
          refine lv_goto (tgt := 44) hx hb dX3_seeNotes_40 (by decide) ?_
          refine g_iast hc hG 47 120 (a2.toNatClampNeg) rfl rfl hi3 rfl dX3_seeNotes_44 (fun S8 H locs eS8 hG => ?_)
          have h := g_let eS8 h
          obtain ⟨v9, ev9⟩ : ∃ y : Int32, y = (a2 + (1 : Int32)) := ⟨_, rfl⟩
          have h := g_let ev9 h
          refine lv_iinc (v := v9) (lv' := [(2, .int v9), (0, gR E 36), (1, .int a1)]) hx hb dX3_seeNotes_45 hl (k := 2) rfl (by rw [ev9]; rfl) (by decide) rfl (fun ls hl => ?_)
          refine lv_goto (tgt := 2) hx hb dX3_seeNotes_48 (by decide) ?_
          exact ih S8 a1 v9 _ _ _ (lv_sub hl [1, 2, 0] rfl) hG h
def fX3_seeNotes (S : GS) (a1 : Int32) : Option (Unit × GS) := glet (0 : Int32) fun v1 => (fX3_seeNotes_2 FU S a1 v1)
set_option maxRecDepth 100000 in
set_option maxHeartbeats 4000000 in
theorem wX3_seeNotes_0 {p : Program} {l : Launch} {e : Env} {s : State} {m : MethodId} {args : Array Value} {below : List Frame} {meth : Method} {c : Code} {E : GE} {res : (Unit × GS)} (hc : GM E p s m args meth c RX3 cX3_seeNotes 3 none) : ∀ (S : GS) (a1 : Int32) (H : Heap) (locs : List Loc) (ls : Array Slot), lv_has ls 3 [(0, gR E 36), (1, .int a1)] → GX E S H locs → fX3_seeNotes S a1 = some res → W p l e rmX3_seeNotes s m args below meth c H locs 0 0 (gZ E below args s none res.2) (F0 m 0 ls []) := by
  obtain ⟨hx, hb, -, -, -, hown, hts, -, -⟩ := id hc
  intro S a1 H locs ls hl hG h
  unfold fX3_seeNotes at h
  refine lv_iconst (v := (0 : Int32)) hx hb dX3_seeNotes_0 (by decide) ?_
  refine lv_topi (fun v1 ev1 => ?_)
  have h := g_let ev1 h
  refine lv_istore_n (lv' := [(2, .int v1), (0, gR E 36), (1, .int a1)]) hx hb dX3_seeNotes_1 rfl hl (by decide) rfl (fun ls hl => ?_)
  exact wX3_seeNotes_2 hc FU S a1 v1 _ _ _ (lv_sub hl [1, 2, 0] rfl) hG h
theorem mX3_seeNotes (l : Launch) (E : GE) {S : GS} {a1 : Int32} {res : (Unit × GS)} (h : fX3_seeNotes S a1 = some res) : gMet l E yX3_seeNotes cX3_seeNotes 3 none rmX3_seeNotes [gR E 36, .int a1] S none res.2 :=
  g_met (by decide) (Nat.le_of_ble_eq_true rfl) rfl fun p e s m below meth c H ls hc hG hl => wX3_seeNotes_0 hc S a1 H [] ls hl hG h
abbrev rmX3_counts : Room := { frames := 0, cells := 0, slots := 0, locals := 0 }
def fX3_counts (S : GS) (a1 : Int32) (a2 : Int32) : Option Int32 := (if gib a1 120 = true then (if (S.1 47 a1.toNatClampNeg) = 0 then (some (0 : Int32)) else (if (S.1 15 a1.toNatClampNeg) = a2 then (some (1 : Int32)) else (some (0 : Int32)))) else none)
set_option maxRecDepth 100000 in
set_option maxHeartbeats 4000000 in
theorem wX3_counts_0 {p : Program} {l : Launch} {e : Env} {s : State} {m : MethodId} {args : Array Value} {below : List Frame} {meth : Method} {c : Code} {E : GE} {res : Int32} (hc : GM E p s m args meth c RX3 cX3_counts 3 (some .boolean)) : ∀ (S : GS) (a1 : Int32) (a2 : Int32) (H : Heap) (locs : List Loc) (ls : Array Slot), lv_has ls 3 [(0, gR E 36), (1, .int a1), (2, .int a2)] → GX E S H locs → fX3_counts S a1 a2 = some res → W p l e rmX3_counts s m args below meth c H locs 0 0 (gZ E below args s (some (.int res)) S) (F0 m 0 ls []) := by
  obtain ⟨hx, hb, -, -, -, hown, hts, -, -⟩ := id hc
  intro S a1 a2 H locs ls hl hG h
  unfold fX3_counts at h
  refine lv_aload_n hx hb dX3_counts_0 rfl (lv_at hl 0 rfl) ?_
  refine g_getR hc hG 36 47 flX3_42 rfl rfl rfl dX3_counts_1 ?_
  refine lv_iload_n hx hb dX3_counts_4 rfl (lv_at hl 1 rfl) ?_
  obtain ⟨hi1, h⟩ := g_if h
  refine g_iald hc hG 47 120 (a1.toNatClampNeg) rfl rfl hi1 rfl dX3_counts_5 ?_
  refine lv_if_eq (tgt := 26) hx hb dX3_counts_6 (by decide) (fun c2 => ?_) (fun c2 => ?_)
  · have h := g_pos c2 h
    refine lv_iconst (v := (0 : Int32)) hx hb dX3_counts_26 (by decide) ?_
    exact g_zretp hc hG (Or.inl rfl) dX3_counts_27 h
  · have h := g_neg c2 h
    refine lv_aload_n hx hb dX3_counts_9 rfl (lv_at hl 0 rfl) ?_
    refine g_getR hc hG 36 14 flX3_53 rfl rfl rfl dX3_counts_10 ?_
    refine g_getR hc hG 14 15 flX3_104 rfl rfl rfl dX3_counts_13 ?_
    refine lv_iload_n hx hb dX3_counts_16 rfl (lv_at hl 1 rfl) ?_
    refine g_iald hc hG 15 120 (a1.toNatClampNeg) rfl rfl hi1 rfl dX3_counts_17 ?_
    refine lv_iload_n hx hb dX3_counts_18 rfl (lv_at hl 2 rfl) ?_
    refine lv_icmp_ne (tgt := 26) hx hb dX3_counts_19 (by decide) (fun c3 => ?_) (fun c3 => ?_)
    · have h := g_neg c3 h
      refine lv_iconst (v := (0 : Int32)) hx hb dX3_counts_26 (by decide) ?_
      exact g_zretp hc hG (Or.inl rfl) dX3_counts_27 h
    · have h := g_pos c3 h
      refine lv_iconst (v := (1 : Int32)) hx hb dX3_counts_22 (by decide) ?_
      refine lv_goto (tgt := 27) hx hb dX3_counts_23 (by decide) ?_
      exact g_zretp hc hG (Or.inr rfl) dX3_counts_27 h
theorem mX3_counts (l : Launch) (E : GE) {S : GS} {a1 : Int32} {a2 : Int32} {res : Int32} (h : fX3_counts S a1 a2 = some res) : gMet l E yX3_counts cX3_counts 3 (some .boolean) rmX3_counts [gR E 36, .int a1, .int a2] S (some (.int res)) S :=
  g_met (by decide) (Nat.le_of_ble_eq_true rfl) rfl fun p e s m below meth c H ls hc hG hl => wX3_counts_0 hc S a1 a2 H [] ls hl hG h
abbrev rmX3_rename : Room := { frames := 0, cells := 0, slots := 0, locals := 0 }
def fX3_rename_2 : Nat → GS → Int32 → Int32 → Int32 → Option (Unit × GS)
  | 0, _, _, _, _ => none
  | n + 1, S, a1, a2, a3 => (if (S.1 5 0) ≤ a3 then (some ((), S)) else (if gib a3 12 = true then (if (S.1 37 a3.toNatClampNeg) = a1 then glet (gsi S 37 (a3.toNatClampNeg) a2) fun S5 => glet (a3 + (1 : Int32)) fun v6 => (fX3_rename_2 n S5 a1 a2 v6) else glet (a3 + (1 : Int32)) fun v4 => (fX3_rename_2 n S a1 a2 v4)) else none))
set_option maxRecDepth 100000 in
set_option maxHeartbeats 4000000 in
theorem wX3_rename_2 {p : Program} {l : Launch} {e : Env} {s : State} {m : MethodId} {args : Array Value} {below : List Frame} {meth : Method} {c : Code} {E : GE} {res : (Unit × GS)} (hc : GM E p s m args meth c RX3 cX3_rename 4 none) : ∀ (n : Nat), ∀ (S : GS) (a1 : Int32) (a2 : Int32) (a3 : Int32) (H : Heap) (locs : List Loc) (ls : Array Slot), lv_has ls 4 [(0, gR E 36), (1, .int a1), (2, .int a2), (3, .int a3)] → GX E S H locs → fX3_rename_2 n S a1 a2 a3 = some res → W p l e rmX3_rename s m args below meth c H locs 0 0 (gZ E below args s none res.2) (F0 m 2 ls []) := by
  obtain ⟨hx, hb, -, -, -, hown, hts, -, -⟩ := id hc
  intro n
  induction n with
  | zero => intro S a1 a2 a3 H locs ls hl hG h; cases h
  | succ n ih =>
    intro S a1 a2 a3 H locs ls hl hG h
    rw [fX3_rename_2] at h
    refine lv_iload_n hx hb dX3_rename_2 rfl (lv_at hl 3 rfl) ?_
    refine lv_aload_n hx hb dX3_rename_3 rfl (lv_at hl 0 rfl) ?_
    refine g_getR hc hG 36 5 flX3_45 rfl rfl rfl dX3_rename_4 ?_
    refine g_getI hc hG 5 flX3_116 rfl rfl dX3_rename_7 ?_
    refine lv_icmp_ge (tgt := 36) hx hb dX3_rename_10 (by decide) (fun c1 => ?_) (fun c1 => ?_)
    · have h := g_pos c1 h
      exact g_vret hc hG dX3_rename_36 h
    · have h := g_neg c1 h
      refine lv_aload_n hx hb dX3_rename_13 rfl (lv_at hl 0 rfl) ?_
      refine g_getR hc hG 36 37 flX3_9 rfl rfl rfl dX3_rename_14 ?_
      refine lv_iload_n hx hb dX3_rename_17 rfl (lv_at hl 3 rfl) ?_
      obtain ⟨hi2, h⟩ := g_if h
      refine g_iald hc hG 37 12 (a3.toNatClampNeg) rfl rfl hi2 rfl dX3_rename_18 ?_
      refine lv_iload_n hx hb dX3_rename_19 rfl (lv_at hl 1 rfl) ?_
      refine lv_icmp_ne (tgt := 30) hx hb dX3_rename_20 (by decide) (fun c3 => ?_) (fun c3 => ?_)
      · have h := g_neg c3 h
        obtain ⟨v4, ev4⟩ : ∃ y : Int32, y = (a3 + (1 : Int32)) := ⟨_, rfl⟩
        have h := g_let ev4 h
        refine lv_iinc (v := v4) (lv' := [(3, .int v4), (0, gR E 36), (1, .int a1), (2, .int a2)]) hx hb dX3_rename_30 hl (k := 3) rfl (by rw [ev4]; rfl) (by decide) rfl (fun ls hl => ?_)
        refine lv_goto (tgt := 2) hx hb dX3_rename_33 (by decide) ?_
        exact ih S a1 a2 v4 _ _ _ (lv_sub hl [1, 2, 3, 0] rfl) hG h
      · have h := g_pos c3 h
        refine lv_aload_n hx hb dX3_rename_23 rfl (lv_at hl 0 rfl) ?_
        refine g_getR hc hG 36 37 flX3_9 rfl rfl rfl dX3_rename_24 ?_
        refine lv_iload_n hx hb dX3_rename_27 rfl (lv_at hl 3 rfl) ?_
        refine lv_iload_n hx hb dX3_rename_28 rfl (lv_at hl 2 rfl) ?_
        refine g_iast hc hG 37 12 (a3.toNatClampNeg) rfl rfl hi2 rfl dX3_rename_29 (fun S5 H locs eS5 hG => ?_)
        have h := g_let eS5 h
        obtain ⟨v6, ev6⟩ : ∃ y : Int32, y = (a3 + (1 : Int32)) := ⟨_, rfl⟩
        have h := g_let ev6 h
        refine lv_iinc (v := v6) (lv' := [(3, .int v6), (0, gR E 36), (1, .int a1), (2, .int a2)]) hx hb dX3_rename_30 hl (k := 3) rfl (by rw [ev6]; rfl) (by decide) rfl (fun ls hl => ?_)
        refine lv_goto (tgt := 2) hx hb dX3_rename_33 (by decide) ?_
        exact ih S5 a1 a2 v6 _ _ _ (lv_sub hl [1, 2, 3, 0] rfl) hG h
def fX3_rename (S : GS) (a1 : Int32) (a2 : Int32) : Option (Unit × GS) := glet (0 : Int32) fun v1 => (fX3_rename_2 FU S a1 a2 v1)
set_option maxRecDepth 100000 in
set_option maxHeartbeats 4000000 in
theorem wX3_rename_0 {p : Program} {l : Launch} {e : Env} {s : State} {m : MethodId} {args : Array Value} {below : List Frame} {meth : Method} {c : Code} {E : GE} {res : (Unit × GS)} (hc : GM E p s m args meth c RX3 cX3_rename 4 none) : ∀ (S : GS) (a1 : Int32) (a2 : Int32) (H : Heap) (locs : List Loc) (ls : Array Slot), lv_has ls 4 [(0, gR E 36), (1, .int a1), (2, .int a2)] → GX E S H locs → fX3_rename S a1 a2 = some res → W p l e rmX3_rename s m args below meth c H locs 0 0 (gZ E below args s none res.2) (F0 m 0 ls []) := by
  obtain ⟨hx, hb, -, -, -, hown, hts, -, -⟩ := id hc
  intro S a1 a2 H locs ls hl hG h
  unfold fX3_rename at h
  refine lv_iconst (v := (0 : Int32)) hx hb dX3_rename_0 (by decide) ?_
  refine lv_topi (fun v1 ev1 => ?_)
  have h := g_let ev1 h
  refine lv_istore_n (lv' := [(3, .int v1), (0, gR E 36), (1, .int a1), (2, .int a2)]) hx hb dX3_rename_1 rfl hl (by decide) rfl (fun ls hl => ?_)
  exact wX3_rename_2 hc FU S a1 a2 v1 _ _ _ (lv_sub hl [1, 2, 3, 0] rfl) hG h
theorem mX3_rename (l : Launch) (E : GE) {S : GS} {a1 : Int32} {a2 : Int32} {res : (Unit × GS)} (h : fX3_rename S a1 a2 = some res) : gMet l E yX3_rename cX3_rename 4 none rmX3_rename [gR E 36, .int a1, .int a2] S none res.2 :=
  g_met (by decide) (Nat.le_of_ble_eq_true rfl) rfl fun p e s m below meth c H ls hc hG hl => wX3_rename_0 hc S a1 a2 H [] ls hl hG h
abbrev rmX3_seeJoinings : Room := { frames := 1, cells := 0, slots := 0, locals := 23 }
def fX3_seeJoinings_28 : Nat → GS → Int32 → Option (Unit × GS)
  | 0, _, _ => none
  | n + 1, S, a1 => (if (S.1 14 0) ≤ a1 then (some ((), S)) else gbv (fX3_counts S a1 (7 : Int32)) fun r3 => (if r3 = 0 then glet (a1 + (1 : Int32)) fun v5 => (fX3_seeJoinings_28 n S v5) else (if gib a1 120 = true then (if gib (S.1 19 a1.toNatClampNeg) 12 = true then glet (S.1 37 ((S.1 19 a1.toNatClampNeg)).toNatClampNeg) fun v8 => (if gib (S.1 18 a1.toNatClampNeg) 12 = true then glet (S.1 37 ((S.1 18 a1.toNatClampNeg)).toNatClampNeg) fun v10 => gbd (fX3_rename S (if v8 < v10 then v10 else v8) (if v10 < v8 then v10 else v8)) fun r12 S13 => glet (a1 + (1 : Int32)) fun v14 => (fX3_seeJoinings_28 n S13 v14) else none) else none) else none)))
set_option maxRecDepth 100000 in
set_option maxHeartbeats 4000000 in
theorem wX3_seeJoinings_28 {p : Program} {l : Launch} {e : Env} {s : State} {m : MethodId} {args : Array Value} {below : List Frame} {meth : Method} {c : Code} {E : GE} {res : (Unit × GS)} (hc : GM E p s m args meth c RX3 cX3_seeJoinings 4 none) : ∀ (n : Nat), ∀ (S : GS) (a1 : Int32) (H : Heap) (locs : List Loc) (ls : Array Slot), lv_has ls 4 [(0, gR E 36), (1, .int a1)] → GX E S H locs → fX3_seeJoinings_28 n S a1 = some res → W p l e rmX3_seeJoinings s m args below meth c H locs 0 0 (gZ E below args s none res.2) (F0 m 28 ls []) := by
  obtain ⟨hx, hb, -, -, -, hown, hts, -, -⟩ := id hc
  intro n
  induction n with
  | zero => intro S a1 H locs ls hl hG h; cases h
  | succ n ih =>
    intro S a1 H locs ls hl hG h
    rw [fX3_seeJoinings_28] at h
    refine lv_iload_n hx hb dX3_seeJoinings_28 rfl (lv_at hl 1 rfl) ?_
    refine lv_aload_n hx hb dX3_seeJoinings_29 rfl (lv_at hl 0 rfl) ?_
    refine g_getR hc hG 36 14 flX3_53 rfl rfl rfl dX3_seeJoinings_30 ?_
    refine g_getI hc hG 14 flX3_96 rfl rfl dX3_seeJoinings_33 ?_
    refine lv_icmp_ge (tgt := 99) hx hb dX3_seeJoinings_36 (by decide) (fun c1 => ?_) (fun c1 => ?_)
    · have h := g_pos c1 h
      exact g_vret hc hG dX3_seeJoinings_99 h
    · have h := g_neg c1 h
      refine lv_aload_n hx hb dX3_seeJoinings_39 rfl (lv_at hl 0 rfl) ?_
      refine lv_iload_n hx hb dX3_seeJoinings_40 rfl (lv_at hl 1 rfl) ?_
      refine lv_bipush (v := (7 : Int32)) hx hb dX3_seeJoinings_41 (by decide) ?_
      obtain ⟨r3, hm2, h⟩ := g_bv h
      refine g_callVi (As := [.int a1, .int (7 : Int32)]) hc hG (mX3_counts l E hm2) mlX3_119 mcX3_counts miX3_counts rfl rfl rfl rfl hl.1 rfl rfl ⟨by decide, by decide⟩ (Nat.le_of_ble_eq_true rfl) ⟨by decide, by decide⟩ dX3_seeJoinings_43 rfl (fun H locs hG => ?_)
      refine lv_if_eq (tgt := 93) hx hb dX3_seeJoinings_46 (by decide) (fun c4 => ?_) (fun c4 => ?_)
      · have h := g_pos c4 h
        obtain ⟨v5, ev5⟩ : ∃ y : Int32, y = (a1 + (1 : Int32)) := ⟨_, rfl⟩
        have h := g_let ev5 h
        refine lv_iinc (v := v5) (lv' := [(1, .int v5), (0, gR E 36)]) hx hb dX3_seeJoinings_93 hl (k := 1) rfl (by rw [ev5]; rfl) (by decide) rfl (fun ls hl => ?_)
        refine lv_goto (tgt := 28) hx hb dX3_seeJoinings_96 (by decide) ?_
        exact ih S v5 _ _ _ (lv_sub hl [1, 0] rfl) hG h
      · have h := g_neg c4 h
        refine lv_aload_n hx hb dX3_seeJoinings_49 rfl (lv_at hl 0 rfl) ?_
        refine g_getR hc hG 36 37 flX3_9 rfl rfl rfl dX3_seeJoinings_50 ?_
        refine lv_aload_n hx hb dX3_seeJoinings_53 rfl (lv_at hl 0 rfl) ?_
        refine g_getR hc hG 36 14 flX3_53 rfl rfl rfl dX3_seeJoinings_54 ?_
        refine g_getR hc hG 14 19 flX3_122 rfl rfl rfl dX3_seeJoinings_57 ?_
        refine lv_iload_n hx hb dX3_seeJoinings_60 rfl (lv_at hl 1 rfl) ?_
        obtain ⟨hi6, h⟩ := g_if h
        refine g_iald hc hG 19 120 (a1.toNatClampNeg) rfl rfl hi6 rfl dX3_seeJoinings_61 ?_
        obtain ⟨hi7, h⟩ := g_if h
        refine g_iald hc hG 37 12 (((S.1 19 a1.toNatClampNeg)).toNatClampNeg) rfl rfl hi7 rfl dX3_seeJoinings_62 ?_
        refine lv_topi (fun v8 ev8 => ?_)
        have h := g_let ev8 h
        refine lv_istore_n (lv' := [(2, .int v8), (0, gR E 36), (1, .int a1)]) hx hb dX3_seeJoinings_63 rfl hl (by decide) rfl (fun ls hl => ?_)
        refine lv_aload_n hx hb dX3_seeJoinings_64 rfl (lv_at hl 1 rfl) ?_
        refine g_getR hc hG 36 37 flX3_9 rfl rfl rfl dX3_seeJoinings_65 ?_
        refine lv_aload_n hx hb dX3_seeJoinings_68 rfl (lv_at hl 1 rfl) ?_
        refine g_getR hc hG 36 14 flX3_53 rfl rfl rfl dX3_seeJoinings_69 ?_
        refine g_getR hc hG 14 18 flX3_107 rfl rfl rfl dX3_seeJoinings_72 ?_
        refine lv_iload_n hx hb dX3_seeJoinings_75 rfl (lv_at hl 2 rfl) ?_
        refine g_iald hc hG 18 120 (a1.toNatClampNeg) rfl rfl hi6 rfl dX3_seeJoinings_76 ?_
        obtain ⟨hi9, h⟩ := g_if h
        refine g_iald hc hG 37 12 (((S.1 18 a1.toNatClampNeg)).toNatClampNeg) rfl rfl hi9 rfl dX3_seeJoinings_77 ?_
        refine lv_topi (fun v10 ev10 => ?_)
        have h := g_let ev10 h
        refine lv_istore_n (lv' := [(3, .int v10), (2, .int v8), (0, gR E 36), (1, .int a1)]) hx hb dX3_seeJoinings_78 rfl hl (by decide) rfl (fun ls hl => ?_)
        refine lv_aload_n hx hb dX3_seeJoinings_79 rfl (lv_at hl 2 rfl) ?_
        refine lv_iload_n hx hb dX3_seeJoinings_80 rfl (lv_at hl 1 rfl) ?_
        refine lv_iload_n hx hb dX3_seeJoinings_81 rfl (lv_at hl 0 rfl) ?_
        refine g_mmax hc hl.1 (mlX3_124) (by decide) (Nat.le_of_ble_eq_true rfl) ⟨by decide, by decide⟩ dX3_seeJoinings_82 ?_
        refine lv_iload_n hx hb dX3_seeJoinings_85 rfl (lv_at hl 1 rfl) ?_
        refine lv_iload_n hx hb dX3_seeJoinings_86 rfl (lv_at hl 0 rfl) ?_
        refine g_mmin hc hl.1 (mlX3_130) (by decide) (Nat.le_of_ble_eq_true rfl) ⟨by decide, by decide⟩ dX3_seeJoinings_87 ?_
        obtain ⟨r12, S13, hm11, h⟩ := g_bd h
        refine g_callVv (As := [.int (if v8 < v10 then v10 else v8), .int (if v10 < v8 then v10 else v8)]) hc hG (mX3_rename l E hm11) mlX3_133 mcX3_rename miX3_rename rfl rfl rfl rfl hl.1 rfl rfl ⟨by decide, by decide⟩ (Nat.le_of_ble_eq_true rfl) ⟨by decide, by decide⟩ dX3_seeJoinings_90 rfl (fun H locs hG => ?_)
        obtain ⟨v14, ev14⟩ : ∃ y : Int32, y = (a1 + (1 : Int32)) := ⟨_, rfl⟩
        have h := g_let ev14 h
        refine lv_iinc (v := v14) (lv' := [(1, .int v14), (3, .int v10), (2, .int v8), (0, gR E 36)]) hx hb dX3_seeJoinings_93 hl (k := 3) rfl (by rw [ev14]; rfl) (by decide) rfl (fun ls hl => ?_)
        refine lv_goto (tgt := 28) hx hb dX3_seeJoinings_96 (by decide) ?_
        exact ih S13 v14 _ _ _ (lv_sub hl [3, 0] rfl) hG h
def fX3_seeJoinings_2 : Nat → GS → Int32 → Option (Unit × GS)
  | 0, _, _ => none
  | n + 1, S, a1 => (if (S.1 5 0) ≤ a1 then glet (0 : Int32) fun v2 => (fX3_seeJoinings_28 FU S v2) else (if gib a1 12 = true then glet (gsi S 37 (a1.toNatClampNeg) a1) fun S4 => glet (a1 + (1 : Int32)) fun v5 => (fX3_seeJoinings_2 n S4 v5) else none))
set_option maxRecDepth 100000 in
set_option maxHeartbeats 4000000 in
theorem wX3_seeJoinings_2 {p : Program} {l : Launch} {e : Env} {s : State} {m : MethodId} {args : Array Value} {below : List Frame} {meth : Method} {c : Code} {E : GE} {res : (Unit × GS)} (hc : GM E p s m args meth c RX3 cX3_seeJoinings 4 none) : ∀ (n : Nat), ∀ (S : GS) (a1 : Int32) (H : Heap) (locs : List Loc) (ls : Array Slot), lv_has ls 4 [(0, gR E 36), (1, .int a1)] → GX E S H locs → fX3_seeJoinings_2 n S a1 = some res → W p l e rmX3_seeJoinings s m args below meth c H locs 0 0 (gZ E below args s none res.2) (F0 m 2 ls []) := by
  obtain ⟨hx, hb, -, -, -, hown, hts, -, -⟩ := id hc
  intro n
  induction n with
  | zero => intro S a1 H locs ls hl hG h; cases h
  | succ n ih =>
    intro S a1 H locs ls hl hG h
    rw [fX3_seeJoinings_2] at h
    refine lv_iload_n hx hb dX3_seeJoinings_2 rfl (lv_at hl 1 rfl) ?_
    refine lv_aload_n hx hb dX3_seeJoinings_3 rfl (lv_at hl 0 rfl) ?_
    refine g_getR hc hG 36 5 flX3_45 rfl rfl rfl dX3_seeJoinings_4 ?_
    refine g_getI hc hG 5 flX3_116 rfl rfl dX3_seeJoinings_7 ?_
    refine lv_icmp_ge (tgt := 26) hx hb dX3_seeJoinings_10 (by decide) (fun c1 => ?_) (fun c1 => ?_)
    · have h := g_pos c1 h
      refine lv_iconst (v := (0 : Int32)) hx hb dX3_seeJoinings_26 (by decide) ?_
      refine lv_topi (fun v2 ev2 => ?_)
      have h := g_let ev2 h
      refine lv_istore_n (lv' := [(1, .int v2), (0, gR E 36)]) hx hb dX3_seeJoinings_27 rfl hl (by decide) rfl (fun ls hl => ?_)
      exact wX3_seeJoinings_28 hc FU S v2 _ _ _ (lv_sub hl [1, 0] rfl) hG h
    · have h := g_neg c1 h
      refine lv_aload_n hx hb dX3_seeJoinings_13 rfl (lv_at hl 0 rfl) ?_
      refine g_getR hc hG 36 37 flX3_9 rfl rfl rfl dX3_seeJoinings_14 ?_
      refine lv_iload_n hx hb dX3_seeJoinings_17 rfl (lv_at hl 1 rfl) ?_
      refine lv_iload_n hx hb dX3_seeJoinings_18 rfl (lv_at hl 1 rfl) ?_
      obtain ⟨hi3, h⟩ := g_if h
      refine g_iast hc hG 37 12 (a1.toNatClampNeg) rfl rfl hi3 rfl dX3_seeJoinings_19 (fun S4 H locs eS4 hG => ?_)
      have h := g_let eS4 h
      obtain ⟨v5, ev5⟩ : ∃ y : Int32, y = (a1 + (1 : Int32)) := ⟨_, rfl⟩
      have h := g_let ev5 h
      refine lv_iinc (v := v5) (lv' := [(1, .int v5), (0, gR E 36)]) hx hb dX3_seeJoinings_20 hl (k := 1) rfl (by rw [ev5]; rfl) (by decide) rfl (fun ls hl => ?_)
      refine lv_goto (tgt := 2) hx hb dX3_seeJoinings_23 (by decide) ?_
      exact ih S4 v5 _ _ _ (lv_sub hl [1, 0] rfl) hG h
def fX3_seeJoinings (S : GS) : Option (Unit × GS) := glet (0 : Int32) fun v1 => (fX3_seeJoinings_2 FU S v1)
set_option maxRecDepth 100000 in
set_option maxHeartbeats 4000000 in
theorem wX3_seeJoinings_0 {p : Program} {l : Launch} {e : Env} {s : State} {m : MethodId} {args : Array Value} {below : List Frame} {meth : Method} {c : Code} {E : GE} {res : (Unit × GS)} (hc : GM E p s m args meth c RX3 cX3_seeJoinings 4 none) : ∀ (S : GS) (H : Heap) (locs : List Loc) (ls : Array Slot), lv_has ls 4 [(0, gR E 36)] → GX E S H locs → fX3_seeJoinings S = some res → W p l e rmX3_seeJoinings s m args below meth c H locs 0 0 (gZ E below args s none res.2) (F0 m 0 ls []) := by
  obtain ⟨hx, hb, -, -, -, hown, hts, -, -⟩ := id hc
  intro S H locs ls hl hG h
  unfold fX3_seeJoinings at h
  refine lv_iconst (v := (0 : Int32)) hx hb dX3_seeJoinings_0 (by decide) ?_
  refine lv_topi (fun v1 ev1 => ?_)
  have h := g_let ev1 h
  refine lv_istore_n (lv' := [(1, .int v1), (0, gR E 36)]) hx hb dX3_seeJoinings_1 rfl hl (by decide) rfl (fun ls hl => ?_)
  exact wX3_seeJoinings_2 hc FU S v1 _ _ _ (lv_sub hl [1, 0] rfl) hG h
theorem mX3_seeJoinings (l : Launch) (E : GE) {S : GS} {res : (Unit × GS)} (h : fX3_seeJoinings S = some res) : gMet l E yX3_seeJoinings cX3_seeJoinings 4 none rmX3_seeJoinings [gR E 36] S none res.2 :=
  g_met (by decide) (Nat.le_of_ble_eq_true rfl) rfl fun p e s m below meth c H ls hc hG hl => wX3_seeJoinings_0 hc S H [] ls hl hG h
abbrev rmJ7_fill_53178 : Room := { frames := 0, cells := 0, slots := 0, locals := 0 }
def fJ7_fill_53178_5 : Nat → GS → Nat → Int32 → Int32 → Int32 → Option (Unit × GS)
  | 0, _, _, _, _, _ => none
  | n + 1, S, a0, a1, a2, a3 => (if a3 ≤ a2 then (some ((), S)) else (if gk a0 = 12 then (if gib a2 (gn a0) = true then glet (gsi S a0 (a2.toNatClampNeg) a1) fun S4 => glet (a2 + (1 : Int32)) fun v5 => (fJ7_fill_53178_5 n S4 a0 a1 v5 a3) else none) else none))
set_option maxRecDepth 100000 in
set_option maxHeartbeats 4000000 in
theorem wJ7_fill_53178_5 {p : Program} {l : Launch} {e : Env} {s : State} {m : MethodId} {args : Array Value} {below : List Frame} {meth : Method} {c : Code} {E : GE} {res : (Unit × GS)} (hc : GM E p s m args meth c RJ7 cJ7_fill_53178 4 none) : ∀ (n : Nat), ∀ (S : GS) (a0 : Nat) (a1 : Int32) (a2 : Int32) (a3 : Int32) (H : Heap) (locs : List Loc) (ls : Array Slot), lv_has ls 4 [(0, gR E a0), (1, .int a1), (2, .int a2), (3, .int a3)] → GX E S H locs → fJ7_fill_53178_5 n S a0 a1 a2 a3 = some res → W p l e rmJ7_fill_53178 s m args below meth c H locs 0 0 (gZ E below args s none res.2) (F0 m 5 ls []) := by
  obtain ⟨hx, hb, -, -, -, hown, hts, -, -⟩ := id hc
  intro n
  induction n with
  | zero => intro S a0 a1 a2 a3 H locs ls hl hG h; cases h
  | succ n ih =>
    intro S a0 a1 a2 a3 H locs ls hl hG h
    rw [fJ7_fill_53178_5] at h
    refine lv_iload_n hx hb dJ7_fill_53178_5 rfl (lv_at hl 2 rfl) ?_
    refine lv_iload_n hx hb dJ7_fill_53178_6 rfl (lv_at hl 3 rfl) ?_
    refine lv_icmp_ge (tgt := 20) hx hb dJ7_fill_53178_7 (by decide) (fun c1 => ?_) (fun c1 => ?_)
    · have h := g_pos c1 h
      exact g_vret hc hG dJ7_fill_53178_20 h
    · have h := g_neg c1 h
      refine lv_aload_n hx hb dJ7_fill_53178_10 rfl (lv_at hl 0 rfl) ?_
      refine lv_iload_n hx hb dJ7_fill_53178_11 rfl (lv_at hl 2 rfl) ?_
      refine lv_iload_n hx hb dJ7_fill_53178_12 rfl (lv_at hl 1 rfl) ?_
      obtain ⟨hk2, h⟩ := g_if h
      obtain ⟨hi3, h⟩ := g_if h
      refine g_iast hc hG a0 (gn a0) (a2.toNatClampNeg) hk2 rfl hi3 rfl dJ7_fill_53178_13 (fun S4 H locs eS4 hG => ?_)
      have h := g_let eS4 h
      obtain ⟨v5, ev5⟩ : ∃ y : Int32, y = (a2 + (1 : Int32)) := ⟨_, rfl⟩
      have h := g_let ev5 h
      refine lv_iinc (v := v5) (lv' := [(2, .int v5), (0, gR E a0), (1, .int a1), (3, .int a3)]) hx hb dJ7_fill_53178_14 hl (k := 2) rfl (by rw [ev5]; rfl) (by decide) rfl (fun ls hl => ?_)
      refine lv_goto (tgt := 5) hx hb dJ7_fill_53178_17 (by decide) ?_
      exact ih S4 a0 a1 v5 a3 _ _ _ (lv_sub hl [1, 2, 0, 3] rfl) hG h
def fJ7_fill_53178 (S : GS) (a0 : Nat) (a1 : Int32) : Option (Unit × GS) := glet (0 : Int32) fun v1 => (if (12 ≤ gk a0 ∧ gk a0 < 16) then glet (Int32.ofNat (gn a0)) fun v3 => (fJ7_fill_53178_5 FU S a0 a1 v1 v3) else none)
set_option maxRecDepth 100000 in
set_option maxHeartbeats 4000000 in
theorem wJ7_fill_53178_0 {p : Program} {l : Launch} {e : Env} {s : State} {m : MethodId} {args : Array Value} {below : List Frame} {meth : Method} {c : Code} {E : GE} {res : (Unit × GS)} (hc : GM E p s m args meth c RJ7 cJ7_fill_53178 4 none) : ∀ (S : GS) (a0 : Nat) (a1 : Int32) (H : Heap) (locs : List Loc) (ls : Array Slot), lv_has ls 4 [(0, gR E a0), (1, .int a1)] → GX E S H locs → fJ7_fill_53178 S a0 a1 = some res → W p l e rmJ7_fill_53178 s m args below meth c H locs 0 0 (gZ E below args s none res.2) (F0 m 0 ls []) := by
  obtain ⟨hx, hb, -, -, -, hown, hts, -, -⟩ := id hc
  intro S a0 a1 H locs ls hl hG h
  unfold fJ7_fill_53178 at h
  refine lv_iconst (v := (0 : Int32)) hx hb dJ7_fill_53178_0 (by decide) ?_
  refine lv_topi (fun v1 ev1 => ?_)
  have h := g_let ev1 h
  refine lv_istore_n (lv' := [(2, .int v1), (0, gR E a0), (1, .int a1)]) hx hb dJ7_fill_53178_1 rfl hl (by decide) rfl (fun ls hl => ?_)
  refine lv_aload_n hx hb dJ7_fill_53178_2 rfl (lv_at hl 1 rfl) ?_
  obtain ⟨hk2, h⟩ := g_if h
  refine g_alen hc hG a0 hk2 (v := Int32.ofNat (gn a0)) rfl dJ7_fill_53178_3 ?_
  refine lv_topi (fun v3 ev3 => ?_)
  have h := g_let ev3 h
  refine lv_istore_n (lv' := [(3, .int v3), (2, .int v1), (0, gR E a0), (1, .int a1)]) hx hb dJ7_fill_53178_4 rfl hl (by decide) rfl (fun ls hl => ?_)
  exact wJ7_fill_53178_5 hc FU S a0 a1 v1 v3 _ _ _ (lv_sub hl [2, 3, 1, 0] rfl) hG h
theorem mJ7_fill_53178 (l : Launch) (E : GE) {S : GS} {a0 : Nat} {a1 : Int32} {res : (Unit × GS)} (h : fJ7_fill_53178 S a0 a1 = some res) : gMet l E yJ7_fill_53178 cJ7_fill_53178 4 none rmJ7_fill_53178 [gR E a0, .int a1] S none res.2 :=
  g_met (by decide) (Nat.le_of_ble_eq_true rfl) rfl fun p e s m below meth c H ls hc hG hl => wJ7_fill_53178_0 hc S a0 a1 H [] ls hl hG h
abbrev rmX5_areOpposed : Room := { frames := 1, cells := 0, slots := 0, locals := 21 }
def fX5_areOpposed (S : GS) (a1 : Int32) (a2 : Int32) : Option Int32 := (if gib a1 12 = true then gbv (fX10_has S (S.1 6 a1.toNatClampNeg) a2) fun r3 => (if (r3 = 0 ∨ r3 = 1) then (some r3) else none) else none)
set_option maxRecDepth 100000 in
set_option maxHeartbeats 4000000 in
theorem wX5_areOpposed_0 {p : Program} {l : Launch} {e : Env} {s : State} {m : MethodId} {args : Array Value} {below : List Frame} {meth : Method} {c : Code} {E : GE} {res : Int32} (hc : GM E p s m args meth c RX5 cX5_areOpposed 3 (some .boolean)) : ∀ (S : GS) (a1 : Int32) (a2 : Int32) (H : Heap) (locs : List Loc) (ls : Array Slot), lv_has ls 3 [(0, gR E 5), (1, .int a1), (2, .int a2)] → GX E S H locs → fX5_areOpposed S a1 a2 = some res → W p l e rmX5_areOpposed s m args below meth c H locs 0 0 (gZ E below args s (some (.int res)) S) (F0 m 0 ls []) := by
  obtain ⟨hx, hb, -, -, -, hown, hts, -, -⟩ := id hc
  intro S a1 a2 H locs ls hl hG h
  unfold fX5_areOpposed at h
  refine lv_aload_n hx hb dX5_areOpposed_0 rfl (lv_at hl 0 rfl) ?_
  refine g_getR hc hG 5 6 flX5_9 rfl rfl rfl dX5_areOpposed_1 ?_
  refine lv_iload_n hx hb dX5_areOpposed_4 rfl (lv_at hl 1 rfl) ?_
  obtain ⟨hi1, h⟩ := g_if h
  refine g_iald hc hG 6 12 (a1.toNatClampNeg) rfl rfl hi1 rfl dX5_areOpposed_5 ?_
  refine lv_iload_n hx hb dX5_areOpposed_6 rfl (lv_at hl 2 rfl) ?_
  obtain ⟨r3, hm2, h⟩ := g_bv h
  refine g_callSNi (As := [.int (S.1 6 a1.toNatClampNeg), .int a2]) hc hG (mX10_has l E hm2) mlX5_15 mcX10_has msX10_has rfl hl.1 rfl rfl ⟨by decide, by decide⟩ (Nat.le_of_ble_eq_true rfl) ⟨by decide, by decide⟩ dX5_areOpposed_7 rfl (fun H locs hG => ?_)
  obtain ⟨hz4, h⟩ := g_if h
  exact g_zretp hc hG hz4 dX5_areOpposed_10 h
theorem mX5_areOpposed (l : Launch) (E : GE) {S : GS} {a1 : Int32} {a2 : Int32} {res : Int32} (h : fX5_areOpposed S a1 a2 = some res) : gMet l E yX5_areOpposed cX5_areOpposed 3 (some .boolean) rmX5_areOpposed [gR E 5, .int a1, .int a2] S (some (.int res)) S :=
  g_met (by decide) (Nat.le_of_ble_eq_true rfl) rfl fun p e s m below meth c H ls hc hG hl => wX5_areOpposed_0 hc S a1 a2 H [] ls hl hG h
abbrev rmX3_seeOpposed : Room := { frames := 2, cells := 0, slots := 0, locals := 43 }
def fX3_seeOpposed_23 (k10 : GS → Int32 → Option (Unit × GS)) : Nat → GS → Int32 → Int32 → Option (Unit × GS)
  | 0, _, _, _ => none
  | n + 1, S, a1, a2 => (if (S.1 5 0) ≤ a2 then glet (a1 + (1 : Int32)) fun v2 => (k10 S v2) else gbv (fX5_areOpposed S a1 a2) fun r4 => (if r4 = 0 then glet (a2 + (1 : Int32)) fun v6 => (fX3_seeOpposed_23 k10 n S a1 v6) else (if gib a1 12 = true then (if gib a2 12 = true then (if (S.1 37 a1.toNatClampNeg) = (S.1 37 a2.toNatClampNeg) then glet (a2 + (1 : Int32)) fun v10 => (fX3_seeOpposed_23 k10 n S a1 v10) else (if gib (S.1 37 a1.toNatClampNeg) 12 = true then glet (gsi S 38 (((S.1 37 a1.toNatClampNeg)).toNatClampNeg) ((S.1 38 ((S.1 37 a1.toNatClampNeg)).toNatClampNeg) ||| ((1 : Int32) <<< ((S.1 37 a2.toNatClampNeg) &&& 31)))) fun S12 => glet (a2 + (1 : Int32)) fun v13 => (fX3_seeOpposed_23 k10 n S12 a1 v13) else none)) else none) else none)))
set_option maxRecDepth 100000 in
set_option maxHeartbeats 4000000 in
theorem wX3_seeOpposed_23 {p : Program} {l : Launch} {e : Env} {s : State} {m : MethodId} {args : Array Value} {below : List Frame} {meth : Method} {c : Code} {E : GE} {res : (Unit × GS)} {k10 : GS → Int32 → Option (Unit × GS)} (hc : GM E p s m args meth c RX3 cX3_seeOpposed 3 none) (hk10 : ∀ (S : GS) (a1 : Int32) (H : Heap) (locs : List Loc) (ls : Array Slot), lv_has ls 3 [(0, gR E 36), (1, .int a1)] → GX E S H locs → k10 S a1 = some res → W p l e rmX3_seeOpposed s m args below meth c H locs 0 0 (gZ E below args s none res.2) (F0 m 10 ls [])) : ∀ (n : Nat), ∀ (S : GS) (a1 : Int32) (a2 : Int32) (H : Heap) (locs : List Loc) (ls : Array Slot), lv_has ls 3 [(0, gR E 36), (1, .int a1), (2, .int a2)] → GX E S H locs → fX3_seeOpposed_23 k10 n S a1 a2 = some res → W p l e rmX3_seeOpposed s m args below meth c H locs 0 0 (gZ E below args s none res.2) (F0 m 23 ls []) := by
  obtain ⟨hx, hb, -, -, -, hown, hts, -, -⟩ := id hc
  intro n
  induction n with
  | zero => intro S a1 a2 H locs ls hl hG h; cases h
  | succ n ih =>
    intro S a1 a2 H locs ls hl hG h
    rw [fX3_seeOpposed_23] at h
    refine lv_iload_n hx hb dX3_seeOpposed_23 rfl (lv_at hl 2 rfl) ?_
    refine lv_aload_n hx hb dX3_seeOpposed_24 rfl (lv_at hl 0 rfl) ?_
    refine g_getR hc hG 36 5 flX3_45 rfl rfl rfl dX3_seeOpposed_25 ?_
    refine g_getI hc hG 5 flX3_116 rfl rfl dX3_seeOpposed_28 ?_
    refine lv_icmp_ge (tgt := 89) hx hb dX3_seeOpposed_31 (by decide) (fun c1 => ?_) (fun c1 => ?_)
    · have h := g_pos c1 h
      obtain ⟨v2, ev2⟩ : ∃ y : Int32, y = (a1 + (1 : Int32)) := ⟨_, rfl⟩
      have h := g_let ev2 h
      refine lv_iinc (v := v2) (lv' := [(1, .int v2), (0, gR E 36), (2, .int a2)]) hx hb dX3_seeOpposed_89 hl (k := 1) rfl (by rw [ev2]; rfl) (by decide) rfl (fun ls hl => ?_)
      refine lv_goto (tgt := 10) hx hb dX3_seeOpposed_92 (by decide) ?_
      exact hk10 S v2 _ _ _ (lv_sub hl [1, 0] rfl) hG h
    · have h := g_neg c1 h
      refine lv_aload_n hx hb dX3_seeOpposed_34 rfl (lv_at hl 0 rfl) ?_
      refine g_getR hc hG 36 5 flX3_45 rfl rfl rfl dX3_seeOpposed_35 ?_
      refine lv_iload_n hx hb dX3_seeOpposed_38 rfl (lv_at hl 1 rfl) ?_
      refine lv_iload_n hx hb dX3_seeOpposed_39 rfl (lv_at hl 2 rfl) ?_
      obtain ⟨r4, hm3, h⟩ := g_bv h
      refine g_callVi (As := [.int a1, .int a2]) hc hG (mX5_areOpposed l E hm3) mlX3_142 mcX5_areOpposed miX5_areOpposed rfl rfl rfl rfl hl.1 rfl rfl ⟨by decide, by decide⟩ (Nat.le_of_ble_eq_true rfl) ⟨by decide, by decide⟩ dX3_seeOpposed_40 rfl (fun H locs hG => ?_)
      refine lv_if_eq (tgt := 83) hx hb dX3_seeOpposed_43 (by decide) (fun c5 => ?_) (fun c5 => ?_)
      · have h := g_pos c5 h
        obtain ⟨v6, ev6⟩ : ∃ y : Int32, y = (a2 + (1 : Int32)) := ⟨_, rfl⟩
        have h := g_let ev6 h
        refine lv_iinc (v := v6) (lv' := [(2, .int v6), (0, gR E 36), (1, .int a1)]) hx hb dX3_seeOpposed_83 hl (k := 2) rfl (by rw [ev6]; rfl) (by decide) rfl (fun ls hl => ?_)
        refine lv_goto (tgt := 23) hx hb dX3_seeOpposed_86 (by decide) ?_
        exact ih S a1 v6 _ _ _ (lv_sub hl [1, 2, 0] rfl) hG h
      · have h := g_neg c5 h
        refine lv_aload_n hx hb dX3_seeOpposed_46 rfl (lv_at hl 0 rfl) ?_
        refine g_getR hc hG 36 37 flX3_9 rfl rfl rfl dX3_seeOpposed_47 ?_
        refine lv_iload_n hx hb dX3_seeOpposed_50 rfl (lv_at hl 1 rfl) ?_
        obtain ⟨hi7, h⟩ := g_if h
        refine g_iald hc hG 37 12 (a1.toNatClampNeg) rfl rfl hi7 rfl dX3_seeOpposed_51 ?_
        refine lv_aload_n hx hb dX3_seeOpposed_52 rfl (lv_at hl 0 rfl) ?_
        refine g_getR hc hG 36 37 flX3_9 rfl rfl rfl dX3_seeOpposed_53 ?_
        refine lv_iload_n hx hb dX3_seeOpposed_56 rfl (lv_at hl 2 rfl) ?_
        obtain ⟨hi8, h⟩ := g_if h
        refine g_iald hc hG 37 12 (a2.toNatClampNeg) rfl rfl hi8 rfl dX3_seeOpposed_57 ?_
        refine lv_icmp_eq (tgt := 83) hx hb dX3_seeOpposed_58 (by decide) (fun c9 => ?_) (fun c9 => ?_)
        · have h := g_pos c9 h
          obtain ⟨v10, ev10⟩ : ∃ y : Int32, y = (a2 + (1 : Int32)) := ⟨_, rfl⟩
          have h := g_let ev10 h
          refine lv_iinc (v := v10) (lv' := [(2, .int v10), (0, gR E 36), (1, .int a1)]) hx hb dX3_seeOpposed_83 hl (k := 2) rfl (by rw [ev10]; rfl) (by decide) rfl (fun ls hl => ?_)
          refine lv_goto (tgt := 23) hx hb dX3_seeOpposed_86 (by decide) ?_
          exact ih S a1 v10 _ _ _ (lv_sub hl [1, 2, 0] rfl) hG h
        · have h := g_neg c9 h
          refine lv_aload_n hx hb dX3_seeOpposed_61 rfl (lv_at hl 0 rfl) ?_
          refine g_getR hc hG 36 38 flX3_15 rfl rfl rfl dX3_seeOpposed_62 ?_
          refine lv_aload_n hx hb dX3_seeOpposed_65 rfl (lv_at hl 0 rfl) ?_
          refine g_getR hc hG 36 37 flX3_9 rfl rfl rfl dX3_seeOpposed_66 ?_
          refine lv_iload_n hx hb dX3_seeOpposed_69 rfl (lv_at hl 1 rfl) ?_
          refine g_iald hc hG 37 12 (a1.toNatClampNeg) rfl rfl hi7 rfl dX3_seeOpposed_70 ?_
          refine lv_dup2_11 hx hb dX3_seeOpposed_71 rfl rfl ?_
          obtain ⟨hi11, h⟩ := g_if h
          refine g_iald hc hG 38 12 (((S.1 37 a1.toNatClampNeg)).toNatClampNeg) rfl rfl hi11 rfl dX3_seeOpposed_72 ?_
          refine lv_iconst (v := (1 : Int32)) hx hb dX3_seeOpposed_73 (by decide) ?_
          refine lv_aload_n hx hb dX3_seeOpposed_74 rfl (lv_at hl 0 rfl) ?_
          refine g_getR hc hG 36 37 flX3_9 rfl rfl rfl dX3_seeOpposed_75 ?_
          refine lv_iload_n hx hb dX3_seeOpposed_78 rfl (lv_at hl 2 rfl) ?_
          refine g_iald hc hG 37 12 (a2.toNatClampNeg) rfl rfl hi8 rfl dX3_seeOpposed_79 ?_
          refine lv_ishl hx hb dX3_seeOpposed_80 ?_
          refine lv_ior hx hb dX3_seeOpposed_81 ?_
          refine g_iast hc hG 38 12 (((S.1 37 a1.toNatClampNeg)).toNatClampNeg) rfl rfl hi11 rfl dX3_seeOpposed_82 (fun S12 H locs eS12 hG => ?_)
          have h := g_let eS12 h
          obtain ⟨v13, ev13⟩ : ∃ y : Int32, y = (a2 + (1 : Int32)) := ⟨_, rfl⟩
          have h := g_let ev13 h
          refine lv_iinc (v := v13) (lv' := [(2, .int v13), (0, gR E 36), (1, .int a1)]) hx hb dX3_seeOpposed_83 hl (k := 2) rfl (by rw [ev13]; rfl) (by decide) rfl (fun ls hl => ?_)
          refine lv_goto (tgt := 23) hx hb dX3_seeOpposed_86 (by decide) ?_
          exact ih S12 a1 v13 _ _ _ (lv_sub hl [1, 2, 0] rfl) hG h
def fX3_seeOpposed_10 : Nat → GS → Int32 → Option (Unit × GS)
  | 0, _, _ => none
  | n + 1, S, a1 => (if (S.1 5 0) ≤ a1 then (some ((), S)) else glet (0 : Int32) fun v2 => (fX3_seeOpposed_23 (fX3_seeOpposed_10 n) FU S a1 v2))
set_option maxRecDepth 100000 in
set_option maxHeartbeats 4000000 in
theorem wX3_seeOpposed_10 {p : Program} {l : Launch} {e : Env} {s : State} {m : MethodId} {args : Array Value} {below : List Frame} {meth : Method} {c : Code} {E : GE} {res : (Unit × GS)} (hc : GM E p s m args meth c RX3 cX3_seeOpposed 3 none) : ∀ (n : Nat), ∀ (S : GS) (a1 : Int32) (H : Heap) (locs : List Loc) (ls : Array Slot), lv_has ls 3 [(0, gR E 36), (1, .int a1)] → GX E S H locs → fX3_seeOpposed_10 n S a1 = some res → W p l e rmX3_seeOpposed s m args below meth c H locs 0 0 (gZ E below args s none res.2) (F0 m 10 ls []) := by
  obtain ⟨hx, hb, -, -, -, hown, hts, -, -⟩ := id hc
  intro n
  induction n with
  | zero => intro S a1 H locs ls hl hG h; cases h
  | succ n ih =>
    intro S a1 H locs ls hl hG h
    rw [fX3_seeOpposed_10] at h
    refine lv_iload_n hx hb dX3_seeOpposed_10 rfl (lv_at hl 1 rfl) ?_
    refine lv_aload_n hx hb dX3_seeOpposed_11 rfl (lv_at hl 0 rfl) ?_
    refine g_getR hc hG 36 5 flX3_45 rfl rfl rfl dX3_seeOpposed_12 ?_
    refine g_getI hc hG 5 flX3_116 rfl rfl dX3_seeOpposed_15 ?_
    refine lv_icmp_ge (tgt := 95) hx hb dX3_seeOpposed_18 (by decide) (fun c1 => ?_) (fun c1 => ?_)
    · have h := g_pos c1 h
      exact g_vret hc hG dX3_seeOpposed_95 h
    · have h := g_neg c1 h
      refine lv_iconst (v := (0 : Int32)) hx hb dX3_seeOpposed_21 (by decide) ?_
      refine lv_topi (fun v2 ev2 => ?_)
      have h := g_let ev2 h
      refine lv_istore_n (lv' := [(2, .int v2), (0, gR E 36), (1, .int a1)]) hx hb dX3_seeOpposed_22 rfl hl (by decide) rfl (fun ls hl => ?_)
      exact wX3_seeOpposed_23 hc ih FU S a1 v2 _ _ _ (lv_sub hl [1, 2, 0] rfl) hG h
def fX3_seeOpposed (S : GS) : Option (Unit × GS) := gbd (fJ7_fill_53178 S 38 (0 : Int32)) fun r2 S3 => glet (0 : Int32) fun v4 => (fX3_seeOpposed_10 FU S3 v4)
set_option maxRecDepth 100000 in
set_option maxHeartbeats 4000000 in
theorem wX3_seeOpposed_0 {p : Program} {l : Launch} {e : Env} {s : State} {m : MethodId} {args : Array Value} {below : List Frame} {meth : Method} {c : Code} {E : GE} {res : (Unit × GS)} (hc : GM E p s m args meth c RX3 cX3_seeOpposed 3 none) : ∀ (S : GS) (H : Heap) (locs : List Loc) (ls : Array Slot), lv_has ls 3 [(0, gR E 36)] → GX E S H locs → fX3_seeOpposed S = some res → W p l e rmX3_seeOpposed s m args below meth c H locs 0 0 (gZ E below args s none res.2) (F0 m 0 ls []) := by
  obtain ⟨hx, hb, -, -, -, hown, hts, -, -⟩ := id hc
  intro S H locs ls hl hG h
  unfold fX3_seeOpposed at h
  refine lv_aload_n hx hb dX3_seeOpposed_0 rfl (lv_at hl 0 rfl) ?_
  refine g_getR hc hG 36 38 flX3_15 rfl rfl rfl dX3_seeOpposed_1 ?_
  refine lv_iconst (v := (0 : Int32)) hx hb dX3_seeOpposed_4 (by decide) ?_
  obtain ⟨r2, S3, hm1, h⟩ := g_bd h
  refine g_callSv (As := [gR E 38, .int (0 : Int32)]) hc hG (mJ7_fill_53178 l E hm1) mlX3_136 mcJ7_fill_53178 msJ7_fill_53178 rfl hl.1 rfl rfl ⟨by decide, by decide⟩ (Nat.le_of_ble_eq_true rfl) ⟨by decide, by decide⟩ dX3_seeOpposed_5 rfl (fun H locs hG => ?_)
  refine lv_iconst (v := (0 : Int32)) hx hb dX3_seeOpposed_8 (by decide) ?_
  refine lv_topi (fun v4 ev4 => ?_)
  have h := g_let ev4 h
  refine lv_istore_n (lv' := [(1, .int v4), (0, gR E 36)]) hx hb dX3_seeOpposed_9 rfl hl (by decide) rfl (fun ls hl => ?_)
  exact wX3_seeOpposed_10 hc FU S3 v4 _ _ _ (lv_sub hl [1, 0] rfl) hG h
theorem mX3_seeOpposed (l : Launch) (E : GE) {S : GS} {res : (Unit × GS)} (h : fX3_seeOpposed S = some res) : gMet l E yX3_seeOpposed cX3_seeOpposed 3 none rmX3_seeOpposed [gR E 36] S none res.2 :=
  g_met (by decide) (Nat.le_of_ble_eq_true rfl) rfl fun p e s m below meth c H ls hc hG hl => wX3_seeOpposed_0 hc S H [] ls hl hG h
abbrev rmX3_isOpinion : Room := { frames := 1, cells := 0, slots := 0, locals := 22 }
def fX3_isOpinion (S : GS) (a1 : Int32) : Option Int32 := gbv (fX3_counts S a1 (0 : Int32)) fun r2 => (if r2 = 0 then gbv (fX3_counts S a1 (1 : Int32)) fun r5 => (if r5 = 0 then (some (0 : Int32)) else (some (1 : Int32))) else (some (1 : Int32)))
set_option maxRecDepth 100000 in
set_option maxHeartbeats 4000000 in
theorem wX3_isOpinion_0 {p : Program} {l : Launch} {e : Env} {s : State} {m : MethodId} {args : Array Value} {below : List Frame} {meth : Method} {c : Code} {E : GE} {res : Int32} (hc : GM E p s m args meth c RX3 cX3_isOpinion 2 (some .boolean)) : ∀ (S : GS) (a1 : Int32) (H : Heap) (locs : List Loc) (ls : Array Slot), lv_has ls 2 [(0, gR E 36), (1, .int a1)] → GX E S H locs → fX3_isOpinion S a1 = some res → W p l e rmX3_isOpinion s m args below meth c H locs 0 0 (gZ E below args s (some (.int res)) S) (F0 m 0 ls []) := by
  obtain ⟨hx, hb, -, -, -, hown, hts, -, -⟩ := id hc
  intro S a1 H locs ls hl hG h
  unfold fX3_isOpinion at h
  refine lv_aload_n hx hb dX3_isOpinion_0 rfl (lv_at hl 0 rfl) ?_
  refine lv_iload_n hx hb dX3_isOpinion_1 rfl (lv_at hl 1 rfl) ?_
  refine lv_iconst (v := (0 : Int32)) hx hb dX3_isOpinion_2 (by decide) ?_
  obtain ⟨r2, hm1, h⟩ := g_bv h
  refine g_callVi (As := [.int a1, .int (0 : Int32)]) hc hG (mX3_counts l E hm1) mlX3_119 mcX3_counts miX3_counts rfl rfl rfl rfl hl.1 rfl rfl ⟨by decide, by decide⟩ (Nat.le_of_ble_eq_true rfl) ⟨by decide, by decide⟩ dX3_isOpinion_3 rfl (fun H locs hG => ?_)
  refine lv_if_ne (tgt := 18) hx hb dX3_isOpinion_6 (by decide) (fun c3 => ?_) (fun c3 => ?_)
  · have h := g_neg c3 h
    refine lv_iconst (v := (1 : Int32)) hx hb dX3_isOpinion_18 (by decide) ?_
    refine lv_goto (tgt := 23) hx hb dX3_isOpinion_19 (by decide) ?_
    exact g_zretp hc hG (Or.inr rfl) dX3_isOpinion_23 h
  · have h := g_pos c3 h
    refine lv_aload_n hx hb dX3_isOpinion_9 rfl (lv_at hl 0 rfl) ?_
    refine lv_iload_n hx hb dX3_isOpinion_10 rfl (lv_at hl 1 rfl) ?_
    refine lv_iconst (v := (1 : Int32)) hx hb dX3_isOpinion_11 (by decide) ?_
    obtain ⟨r5, hm4, h⟩ := g_bv h
    refine g_callVi (As := [.int a1, .int (1 : Int32)]) hc hG (mX3_counts l E hm4) mlX3_119 mcX3_counts miX3_counts rfl rfl rfl rfl hl.1 rfl rfl ⟨by decide, by decide⟩ (Nat.le_of_ble_eq_true rfl) ⟨by decide, by decide⟩ dX3_isOpinion_12 rfl (fun H locs hG => ?_)
    refine lv_if_eq (tgt := 22) hx hb dX3_isOpinion_15 (by decide) (fun c6 => ?_) (fun c6 => ?_)
    · have h := g_pos c6 h
      refine lv_iconst (v := (0 : Int32)) hx hb dX3_isOpinion_22 (by decide) ?_
      exact g_zretp hc hG (Or.inl rfl) dX3_isOpinion_23 h
    · have h := g_neg c6 h
      refine lv_iconst (v := (1 : Int32)) hx hb dX3_isOpinion_18 (by decide) ?_
      refine lv_goto (tgt := 23) hx hb dX3_isOpinion_19 (by decide) ?_
      exact g_zretp hc hG (Or.inr rfl) dX3_isOpinion_23 h
theorem mX3_isOpinion (l : Launch) (E : GE) {S : GS} {a1 : Int32} {res : Int32} (h : fX3_isOpinion S a1 = some res) : gMet l E yX3_isOpinion cX3_isOpinion 2 (some .boolean) rmX3_isOpinion [gR E 36, .int a1] S (some (.int res)) S :=
  g_met (by decide) (Nat.le_of_ble_eq_true rfl) rfl fun p e s m below meth c H ls hc hG hl => wX3_isOpinion_0 hc S a1 H [] ls hl hG h
abbrev rmX3_seeOpinions : Room := { frames := 2, cells := 0, slots := 0, locals := 43 }
def fX3_seeOpinions_112 : Nat → GS → Int32 → Option (Unit × GS)
  | 0, _, _ => none
  | n + 1, S, a2 => (if (S.1 14 0) ≤ a2 then (some ((), S)) else gbv (fX3_isOpinion S a2) fun r3 => (if r3 = 0 then glet (a2 + (1 : Int32)) fun v5 => (fX3_seeOpinions_112 n S v5) else (if gib a2 120 = true then glet (S.1 17 a2.toNatClampNeg) fun v7 => (if gib (S.1 19 a2.toNatClampNeg) 12 = true then (if gib (S.1 37 ((S.1 19 a2.toNatClampNeg)).toNatClampNeg) 12 = true then glet (gsi S 42 (((S.1 37 ((S.1 19 a2.toNatClampNeg)).toNatClampNeg)).toNatClampNeg) ((S.1 42 ((S.1 37 ((S.1 19 a2.toNatClampNeg)).toNatClampNeg)).toNatClampNeg) ||| ((1 : Int32) <<< (v7 &&& 31)))) fun S10 => (if gib v7 32 = true then (if gib (S10.1 45 v7.toNatClampNeg) 120 = true then glet (gsi S10 43 (((S10.1 45 v7.toNatClampNeg)).toNatClampNeg) a2) fun S13 => glet (gsi S13 45 (v7.toNatClampNeg) ((S13.1 45 v7.toNatClampNeg) + (1 : Int32))) fun S14 => glet (a2 + (1 : Int32)) fun v15 => (fX3_seeOpinions_112 n S14 v15) else none) else none) else none) else none) else none)))
set_option maxRecDepth 100000 in
set_option maxHeartbeats 4000000 in
theorem wX3_seeOpinions_112 {p : Program} {l : Launch} {e : Env} {s : State} {m : MethodId} {args : Array Value} {below : List Frame} {meth : Method} {c : Code} {E : GE} {res : (Unit × GS)} (hc : GM E p s m args meth c RX3 cX3_seeOpinions 4 none) : ∀ (n : Nat), ∀ (S : GS) (a2 : Int32) (H : Heap) (locs : List Loc) (ls : Array Slot), lv_has ls 4 [(0, gR E 36), (2, .int a2)] → GX E S H locs → fX3_seeOpinions_112 n S a2 = some res → W p l e rmX3_seeOpinions s m args below meth c H locs 0 0 (gZ E below args s none res.2) (F0 m 112 ls []) := by
  obtain ⟨hx, hb, -, -, -, hown, hts, -, -⟩ := id hc
  intro n
  induction n with
  | zero => intro S a2 H locs ls hl hG h; cases h
  | succ n ih =>
    intro S a2 H locs ls hl hG h
    rw [fX3_seeOpinions_112] at h
    refine lv_iload_n hx hb dX3_seeOpinions_112 rfl (lv_at hl 1 rfl) ?_
    refine lv_aload_n hx hb dX3_seeOpinions_113 rfl (lv_at hl 0 rfl) ?_
    refine g_getR hc hG 36 14 flX3_53 rfl rfl rfl dX3_seeOpinions_114 ?_
    refine g_getI hc hG 14 flX3_96 rfl rfl dX3_seeOpinions_117 ?_
    refine lv_icmp_ge (tgt := 194) hx hb dX3_seeOpinions_120 (by decide) (fun c1 => ?_) (fun c1 => ?_)
    · have h := g_pos c1 h
      exact g_vret hc hG dX3_seeOpinions_194 h
    · have h := g_neg c1 h
      refine lv_aload_n hx hb dX3_seeOpinions_123 rfl (lv_at hl 0 rfl) ?_
      refine lv_iload_n hx hb dX3_seeOpinions_124 rfl (lv_at hl 1 rfl) ?_
      obtain ⟨r3, hm2, h⟩ := g_bv h
      refine g_callVi (As := [.int a2]) hc hG (mX3_isOpinion l E hm2) mlX3_145 mcX3_isOpinion miX3_isOpinion rfl rfl rfl rfl hl.1 rfl rfl ⟨by decide, by decide⟩ (Nat.le_of_ble_eq_true rfl) ⟨by decide, by decide⟩ dX3_seeOpinions_125 rfl (fun H locs hG => ?_)
      refine lv_if_eq (tgt := 188) hx hb dX3_seeOpinions_128 (by decide) (fun c4 => ?_) (fun c4 => ?_)
      · have h := g_pos c4 h
        obtain ⟨v5, ev5⟩ : ∃ y : Int32, y = (a2 + (1 : Int32)) := ⟨_, rfl⟩
        have h := g_let ev5 h
        refine lv_iinc (v := v5) (lv' := [(2, .int v5), (0, gR E 36)]) hx hb dX3_seeOpinions_188 hl (k := 1) rfl (by rw [ev5]; rfl) (by decide) rfl (fun ls hl => ?_)
        refine lv_goto (tgt := 112) hx hb dX3_seeOpinions_191 (by decide) ?_
        exact ih S v5 _ _ _ (lv_sub hl [1, 0] rfl) hG h
      · have h := g_neg c4 h
        refine lv_aload_n hx hb dX3_seeOpinions_131 rfl (lv_at hl 0 rfl) ?_
        refine g_getR hc hG 36 14 flX3_53 rfl rfl rfl dX3_seeOpinions_132 ?_
        refine g_getR hc hG 14 17 flX3_110 rfl rfl rfl dX3_seeOpinions_135 ?_
        refine lv_iload_n hx hb dX3_seeOpinions_138 rfl (lv_at hl 1 rfl) ?_
        obtain ⟨hi6, h⟩ := g_if h
        refine g_iald hc hG 17 120 (a2.toNatClampNeg) rfl rfl hi6 rfl dX3_seeOpinions_139 ?_
        refine lv_topi (fun v7 ev7 => ?_)
        have h := g_let ev7 h
        refine lv_istore_n (lv' := [(3, .int v7), (0, gR E 36), (2, .int a2)]) hx hb dX3_seeOpinions_140 rfl hl (by decide) rfl (fun ls hl => ?_)
        refine lv_aload_n hx hb dX3_seeOpinions_141 rfl (lv_at hl 1 rfl) ?_
        refine g_getR hc hG 36 42 flX3_27 rfl rfl rfl dX3_seeOpinions_142 ?_
        refine lv_aload_n hx hb dX3_seeOpinions_145 rfl (lv_at hl 1 rfl) ?_
        refine g_getR hc hG 36 37 flX3_9 rfl rfl rfl dX3_seeOpinions_146 ?_
        refine lv_aload_n hx hb dX3_seeOpinions_149 rfl (lv_at hl 1 rfl) ?_
        refine g_getR hc hG 36 14 flX3_53 rfl rfl rfl dX3_seeOpinions_150 ?_
        refine g_getR hc hG 14 19 flX3_122 rfl rfl rfl dX3_seeOpinions_153 ?_
        refine lv_iload_n hx hb dX3_seeOpinions_156 rfl (lv_at hl 2 rfl) ?_
        refine g_iald hc hG 19 120 (a2.toNatClampNeg) rfl rfl hi6 rfl dX3_seeOpinions_157 ?_
        obtain ⟨hi8, h⟩ := g_if h
        refine g_iald hc hG 37 12 (((S.1 19 a2.toNatClampNeg)).toNatClampNeg) rfl rfl hi8 rfl dX3_seeOpinions_158 ?_
        refine lv_dup2_11 hx hb dX3_seeOpinions_159 rfl rfl ?_
        obtain ⟨hi9, h⟩ := g_if h
        refine g_iald hc hG 42 12 (((S.1 37 ((S.1 19 a2.toNatClampNeg)).toNatClampNeg)).toNatClampNeg) rfl rfl hi9 rfl dX3_seeOpinions_160 ?_
        refine lv_iconst (v := (1 : Int32)) hx hb dX3_seeOpinions_161 (by decide) ?_
        refine lv_iload_n hx hb dX3_seeOpinions_162 rfl (lv_at hl 0 rfl) ?_
        refine lv_ishl hx hb dX3_seeOpinions_163 ?_
        refine lv_ior hx hb dX3_seeOpinions_164 ?_
        refine g_iast hc hG 42 12 (((S.1 37 ((S.1 19 a2.toNatClampNeg)).toNatClampNeg)).toNatClampNeg) rfl rfl hi9 rfl dX3_seeOpinions_165 (fun S10 H locs eS10 hG => ?_)
        have h := g_let eS10 h
        refine lv_aload_n hx hb dX3_seeOpinions_166 rfl (lv_at hl 1 rfl) ?_
        refine g_getR hc hG 36 43 flX3_30 rfl rfl rfl dX3_seeOpinions_167 ?_
        refine lv_aload_n hx hb dX3_seeOpinions_170 rfl (lv_at hl 1 rfl) ?_
        refine g_getR hc hG 36 45 flX3_36 rfl rfl rfl dX3_seeOpinions_171 ?_
        refine lv_iload_n hx hb dX3_seeOpinions_174 rfl (lv_at hl 0 rfl) ?_
        obtain ⟨hi11, h⟩ := g_if h
        refine g_iald hc hG 45 32 (v7.toNatClampNeg) rfl rfl hi11 rfl dX3_seeOpinions_175 ?_
        refine lv_iload_n hx hb dX3_seeOpinions_176 rfl (lv_at hl 2 rfl) ?_
        obtain ⟨hi12, h⟩ := g_if h
        refine g_iast hc hG 43 120 (((S10.1 45 v7.toNatClampNeg)).toNatClampNeg) rfl rfl hi12 rfl dX3_seeOpinions_177 (fun S13 H locs eS13 hG => ?_)
        have h := g_let eS13 h
        refine lv_aload_n hx hb dX3_seeOpinions_178 rfl (lv_at hl 1 rfl) ?_
        refine g_getR hc hG 36 45 flX3_36 rfl rfl rfl dX3_seeOpinions_179 ?_
        refine lv_iload_n hx hb dX3_seeOpinions_182 rfl (lv_at hl 0 rfl) ?_
        refine lv_dup2_11 hx hb dX3_seeOpinions_183 rfl rfl ?_
        refine g_iald hc hG 45 32 (v7.toNatClampNeg) rfl rfl hi11 rfl dX3_seeOpinions_184 ?_
        refine lv_iconst (v := (1 : Int32)) hx hb dX3_seeOpinions_185 (by decide) ?_
        refine lv_iadd hx hb dX3_seeOpinions_186 ?_
        refine g_iast hc hG 45 32 (v7.toNatClampNeg) rfl rfl hi11 rfl dX3_seeOpinions_187 (fun S14 H locs eS14 hG => ?_)
        have h := g_let eS14 h
        obtain ⟨v15, ev15⟩ : ∃ y : Int32, y = (a2 + (1 : Int32)) := ⟨_, rfl⟩
        have h := g_let ev15 h
        refine lv_iinc (v := v15) (lv' := [(2, .int v15), (3, .int v7), (0, gR E 36)]) hx hb dX3_seeOpinions_188 hl (k := 2) rfl (by rw [ev15]; rfl) (by decide) rfl (fun ls hl => ?_)
        refine lv_goto (tgt := 112) hx hb dX3_seeOpinions_191 (by decide) ?_
        exact ih S14 v15 _ _ _ (lv_sub hl [2, 0] rfl) hG h
def fX3_seeOpinions_65 : Nat → GS → Int32 → Int32 → Option (Unit × GS)
  | 0, _, _, _ => none
  | n + 1, S, a1, a2 => (if (S.1 7 0) ≤ a2 then glet (0 : Int32) fun v2 => (fX3_seeOpinions_112 FU S v2) else (if gib a2 32 = true then glet (gsi S 44 (a2.toNatClampNeg) a1) fun S4 => glet (a1 + (S4.1 45 a2.toNatClampNeg)) fun v5 => glet (gsi S4 45 (a2.toNatClampNeg) (S4.1 44 a2.toNatClampNeg)) fun S6 => glet (a2 + (1 : Int32)) fun v7 => (fX3_seeOpinions_65 n S6 v5 v7) else none))
set_option maxRecDepth 100000 in
set_option maxHeartbeats 4000000 in
theorem wX3_seeOpinions_65 {p : Program} {l : Launch} {e : Env} {s : State} {m : MethodId} {args : Array Value} {below : List Frame} {meth : Method} {c : Code} {E : GE} {res : (Unit × GS)} (hc : GM E p s m args meth c RX3 cX3_seeOpinions 4 none) : ∀ (n : Nat), ∀ (S : GS) (a1 : Int32) (a2 : Int32) (H : Heap) (locs : List Loc) (ls : Array Slot), lv_has ls 4 [(0, gR E 36), (1, .int a1), (2, .int a2)] → GX E S H locs → fX3_seeOpinions_65 n S a1 a2 = some res → W p l e rmX3_seeOpinions s m args below meth c H locs 0 0 (gZ E below args s none res.2) (F0 m 65 ls []) := by
  obtain ⟨hx, hb, -, -, -, hown, hts, -, -⟩ := id hc
  intro n
  induction n with
  | zero => intro S a1 a2 H locs ls hl hG h; cases h
  | succ n ih =>
    intro S a1 a2 H locs ls hl hG h
    rw [fX3_seeOpinions_65] at h
    refine lv_iload_n hx hb dX3_seeOpinions_65 rfl (lv_at hl 2 rfl) ?_
    refine lv_aload_n hx hb dX3_seeOpinions_66 rfl (lv_at hl 0 rfl) ?_
    refine g_getR hc hG 36 7 flX3_49 rfl rfl rfl dX3_seeOpinions_67 ?_
    refine g_getI hc hG 7 flX3_88 rfl rfl dX3_seeOpinions_70 ?_
    refine lv_icmp_ge (tgt := 110) hx hb dX3_seeOpinions_73 (by decide) (fun c1 => ?_) (fun c1 => ?_)
    · have h := g_pos c1 h
      refine lv_iconst (v := (0 : Int32)) hx hb dX3_seeOpinions_110 (by decide) ?_
      refine lv_topi (fun v2 ev2 => ?_)
      have h := g_let ev2 h
      refine lv_istore_n (lv' := [(2, .int v2), (0, gR E 36), (1, .int a1)]) hx hb dX3_seeOpinions_111 rfl hl (by decide) rfl (fun ls hl => ?_)
      exact wX3_seeOpinions_112 hc FU S v2 _ _ _ (lv_sub hl [1, 0] rfl) hG h
    · have h := g_neg c1 h
      refine lv_aload_n hx hb dX3_seeOpinions_76 rfl (lv_at hl 0 rfl) ?_
      refine g_getR hc hG 36 44 flX3_33 rfl rfl rfl dX3_seeOpinions_77 ?_
      refine lv_iload_n hx hb dX3_seeOpinions_80 rfl (lv_at hl 2 rfl) ?_
      refine lv_iload_n hx hb dX3_seeOpinions_81 rfl (lv_at hl 1 rfl) ?_
      obtain ⟨hi3, h⟩ := g_if h
      refine g_iast hc hG 44 32 (a2.toNatClampNeg) rfl rfl hi3 rfl dX3_seeOpinions_82 (fun S4 H locs eS4 hG => ?_)
      have h := g_let eS4 h
      refine lv_iload_n hx hb dX3_seeOpinions_83 rfl (lv_at hl 1 rfl) ?_
      refine lv_aload_n hx hb dX3_seeOpinions_84 rfl (lv_at hl 0 rfl) ?_
      refine g_getR hc hG 36 45 flX3_36 rfl rfl rfl dX3_seeOpinions_85 ?_
      refine lv_iload_n hx hb dX3_seeOpinions_88 rfl (lv_at hl 2 rfl) ?_
      refine g_iald hc hG 45 32 (a2.toNatClampNeg) rfl rfl hi3 rfl dX3_seeOpinions_89 ?_
      refine lv_iadd hx hb dX3_seeOpinions_90 ?_
      refine lv_topi (fun v5 ev5 => ?_)
      have h := g_let ev5 h
      refine lv_istore_n (lv' := [(1, .int v5), (0, gR E 36), (2, .int a2)]) hx hb dX3_seeOpinions_91 rfl hl (by decide) rfl (fun ls hl => ?_)
      refine lv_aload_n hx hb dX3_seeOpinions_92 rfl (lv_at hl 1 rfl) ?_
      refine g_getR hc hG 36 45 flX3_36 rfl rfl rfl dX3_seeOpinions_93 ?_
      refine lv_iload_n hx hb dX3_seeOpinions_96 rfl (lv_at hl 2 rfl) ?_
      refine lv_aload_n hx hb dX3_seeOpinions_97 rfl (lv_at hl 1 rfl) ?_
      refine g_getR hc hG 36 44 flX3_33 rfl rfl rfl dX3_seeOpinions_98 ?_
      refine lv_iload_n hx hb dX3_seeOpinions_101 rfl (lv_at hl 2 rfl) ?_
      refine g_iald hc hG 44 32 (a2.toNatClampNeg) rfl rfl hi3 rfl dX3_seeOpinions_102 ?_
      refine g_iast hc hG 45 32 (a2.toNatClampNeg) rfl rfl hi3 rfl dX3_seeOpinions_103 (fun S6 H locs eS6 hG => ?_)
      have h := g_let eS6 h
      obtain ⟨v7, ev7⟩ : ∃ y : Int32, y = (a2 + (1 : Int32)) := ⟨_, rfl⟩
      have h := g_let ev7 h
      refine lv_iinc (v := v7) (lv' := [(2, .int v7), (1, .int v5), (0, gR E 36)]) hx hb dX3_seeOpinions_104 hl (k := 2) rfl (by rw [ev7]; rfl) (by decide) rfl (fun ls hl => ?_)
      refine lv_goto (tgt := 65) hx hb dX3_seeOpinions_107 (by decide) ?_
      exact ih S6 v5 v7 _ _ _ (lv_sub hl [2, 1, 0] rfl) hG h
def fX3_seeOpinions_18 : Nat → GS → Int32 → Option (Unit × GS)
  | 0, _, _ => none
  | n + 1, S, a1 => (if (S.1 14 0) ≤ a1 then glet (0 : Int32) fun v2 => glet (0 : Int32) fun v3 => (fX3_seeOpinions_65 FU S v2 v3) else gbv (fX3_isOpinion S a1) fun r5 => (if r5 = 0 then glet (a1 + (1 : Int32)) fun v7 => (fX3_seeOpinions_18 n S v7) else (if gib a1 120 = true then (if gib (S.1 17 a1.toNatClampNeg) 32 = true then glet (gsi S 45 (((S.1 17 a1.toNatClampNeg)).toNatClampNeg) ((S.1 45 ((S.1 17 a1.toNatClampNeg)).toNatClampNeg) + (1 : Int32))) fun S10 => glet (a1 + (1 : Int32)) fun v11 => (fX3_seeOpinions_18 n S10 v11) else none) else none)))
set_option maxRecDepth 100000 in
set_option maxHeartbeats 4000000 in
theorem wX3_seeOpinions_18 {p : Program} {l : Launch} {e : Env} {s : State} {m : MethodId} {args : Array Value} {below : List Frame} {meth : Method} {c : Code} {E : GE} {res : (Unit × GS)} (hc : GM E p s m args meth c RX3 cX3_seeOpinions 4 none) : ∀ (n : Nat), ∀ (S : GS) (a1 : Int32) (H : Heap) (locs : List Loc) (ls : Array Slot), lv_has ls 4 [(0, gR E 36), (1, .int a1)] → GX E S H locs → fX3_seeOpinions_18 n S a1 = some res → W p l e rmX3_seeOpinions s m args below meth c H locs 0 0 (gZ E below args s none res.2) (F0 m 18 ls []) := by
  obtain ⟨hx, hb, -, -, -, hown, hts, -, -⟩ := id hc
  intro n
  induction n with
  | zero => intro S a1 H locs ls hl hG h; cases h
  | succ n ih =>
    intro S a1 H locs ls hl hG h
    rw [fX3_seeOpinions_18] at h
    refine lv_iload_n hx hb dX3_seeOpinions_18 rfl (lv_at hl 1 rfl) ?_
    refine lv_aload_n hx hb dX3_seeOpinions_19 rfl (lv_at hl 0 rfl) ?_
    refine g_getR hc hG 36 14 flX3_53 rfl rfl rfl dX3_seeOpinions_20 ?_
    refine g_getI hc hG 14 flX3_96 rfl rfl dX3_seeOpinions_23 ?_
    refine lv_icmp_ge (tgt := 61) hx hb dX3_seeOpinions_26 (by decide) (fun c1 => ?_) (fun c1 => ?_)
    · have h := g_pos c1 h
      refine lv_iconst (v := (0 : Int32)) hx hb dX3_seeOpinions_61 (by decide) ?_
      refine lv_topi (fun v2 ev2 => ?_)
      have h := g_let ev2 h
      refine lv_istore_n (lv' := [(1, .int v2), (0, gR E 36)]) hx hb dX3_seeOpinions_62 rfl hl (by decide) rfl (fun ls hl => ?_)
      refine lv_iconst (v := (0 : Int32)) hx hb dX3_seeOpinions_63 (by decide) ?_
      refine lv_topi (fun v3 ev3 => ?_)
      have h := g_let ev3 h
      refine lv_istore_n (lv' := [(2, .int v3), (1, .int v2), (0, gR E 36)]) hx hb dX3_seeOpinions_64 rfl hl (by decide) rfl (fun ls hl => ?_)
      exact wX3_seeOpinions_65 hc FU S v2 v3 _ _ _ (lv_sub hl [2, 1, 0] rfl) hG h
    · have h := g_neg c1 h
      refine lv_aload_n hx hb dX3_seeOpinions_29 rfl (lv_at hl 0 rfl) ?_
      refine lv_iload_n hx hb dX3_seeOpinions_30 rfl (lv_at hl 1 rfl) ?_
      obtain ⟨r5, hm4, h⟩ := g_bv h
      refine g_callVi (As := [.int a1]) hc hG (mX3_isOpinion l E hm4) mlX3_145 mcX3_isOpinion miX3_isOpinion rfl rfl rfl rfl hl.1 rfl rfl ⟨by decide, by decide⟩ (Nat.le_of_ble_eq_true rfl) ⟨by decide, by decide⟩ dX3_seeOpinions_31 rfl (fun H locs hG => ?_)
      refine lv_if_eq (tgt := 55) hx hb dX3_seeOpinions_34 (by decide) (fun c6 => ?_) (fun c6 => ?_)
      · have h := g_pos c6 h
        obtain ⟨v7, ev7⟩ : ∃ y : Int32, y = (a1 + (1 : Int32)) := ⟨_, rfl⟩
        have h := g_let ev7 h
        refine lv_iinc (v := v7) (lv' := [(1, .int v7), (0, gR E 36)]) hx hb dX3_seeOpinions_55 hl (k := 1) rfl (by rw [ev7]; rfl) (by decide) rfl (fun ls hl => ?_)
        refine lv_goto (tgt := 18) hx hb dX3_seeOpinions_58 (by decide) ?_
        exact ih S v7 _ _ _ (lv_sub hl [1, 0] rfl) hG h
      · have h := g_neg c6 h
        refine lv_aload_n hx hb dX3_seeOpinions_37 rfl (lv_at hl 0 rfl) ?_
        refine g_getR hc hG 36 45 flX3_36 rfl rfl rfl dX3_seeOpinions_38 ?_
        refine lv_aload_n hx hb dX3_seeOpinions_41 rfl (lv_at hl 0 rfl) ?_
        refine g_getR hc hG 36 14 flX3_53 rfl rfl rfl dX3_seeOpinions_42 ?_
        refine g_getR hc hG 14 17 flX3_110 rfl rfl rfl dX3_seeOpinions_45 ?_
        refine lv_iload_n hx hb dX3_seeOpinions_48 rfl (lv_at hl 1 rfl) ?_
        obtain ⟨hi8, h⟩ := g_if h
        refine g_iald hc hG 17 120 (a1.toNatClampNeg) rfl rfl hi8 rfl dX3_seeOpinions_49 ?_
        refine lv_dup2_11 hx hb dX3_seeOpinions_50 rfl rfl ?_
        obtain ⟨hi9, h⟩ := g_if h
        refine g_iald hc hG 45 32 (((S.1 17 a1.toNatClampNeg)).toNatClampNeg) rfl rfl hi9 rfl dX3_seeOpinions_51 ?_
        refine lv_iconst (v := (1 : Int32)) hx hb dX3_seeOpinions_52 (by decide) ?_
        refine lv_iadd hx hb dX3_seeOpinions_53 ?_
        refine g_iast hc hG 45 32 (((S.1 17 a1.toNatClampNeg)).toNatClampNeg) rfl rfl hi9 rfl dX3_seeOpinions_54 (fun S10 H locs eS10 hG => ?_)
        have h := g_let eS10 h
        obtain ⟨v11, ev11⟩ : ∃ y : Int32, y = (a1 + (1 : Int32)) := ⟨_, rfl⟩
        have h := g_let ev11 h
        refine lv_iinc (v := v11) (lv' := [(1, .int v11), (0, gR E 36)]) hx hb dX3_seeOpinions_55 hl (k := 1) rfl (by rw [ev11]; rfl) (by decide) rfl (fun ls hl => ?_)
        refine lv_goto (tgt := 18) hx hb dX3_seeOpinions_58 (by decide) ?_
        exact ih S10 v11 _ _ _ (lv_sub hl [1, 0] rfl) hG h
def fX3_seeOpinions (S : GS) : Option (Unit × GS) := gbd (fJ7_fill_53178 S 42 (0 : Int32)) fun r2 S3 => gbd (fJ7_fill_53178 S3 45 (0 : Int32)) fun r5 S6 => glet (0 : Int32) fun v7 => (fX3_seeOpinions_18 FU S6 v7)
set_option maxRecDepth 100000 in
set_option maxHeartbeats 4000000 in
theorem wX3_seeOpinions_0 {p : Program} {l : Launch} {e : Env} {s : State} {m : MethodId} {args : Array Value} {below : List Frame} {meth : Method} {c : Code} {E : GE} {res : (Unit × GS)} (hc : GM E p s m args meth c RX3 cX3_seeOpinions 4 none) : ∀ (S : GS) (H : Heap) (locs : List Loc) (ls : Array Slot), lv_has ls 4 [(0, gR E 36)] → GX E S H locs → fX3_seeOpinions S = some res → W p l e rmX3_seeOpinions s m args below meth c H locs 0 0 (gZ E below args s none res.2) (F0 m 0 ls []) := by
  obtain ⟨hx, hb, -, -, -, hown, hts, -, -⟩ := id hc
  intro S H locs ls hl hG h
  unfold fX3_seeOpinions at h
  refine lv_aload_n hx hb dX3_seeOpinions_0 rfl (lv_at hl 0 rfl) ?_
  refine g_getR hc hG 36 42 flX3_27 rfl rfl rfl dX3_seeOpinions_1 ?_
  refine lv_iconst (v := (0 : Int32)) hx hb dX3_seeOpinions_4 (by decide) ?_
  obtain ⟨r2, S3, hm1, h⟩ := g_bd h
  refine g_callSv (As := [gR E 42, .int (0 : Int32)]) hc hG (mJ7_fill_53178 l E hm1) mlX3_136 mcJ7_fill_53178 msJ7_fill_53178 rfl hl.1 rfl rfl ⟨by decide, by decide⟩ (Nat.le_of_ble_eq_true rfl) ⟨by decide, by decide⟩ dX3_seeOpinions_5 rfl (fun H locs hG => ?_)
  refine lv_aload_n hx hb dX3_seeOpinions_8 rfl (lv_at hl 0 rfl) ?_
  refine g_getR hc hG 36 45 flX3_36 rfl rfl rfl dX3_seeOpinions_9 ?_
  refine lv_iconst (v := (0 : Int32)) hx hb dX3_seeOpinions_12 (by decide) ?_
  obtain ⟨r5, S6, hm4, h⟩ := g_bd h
  refine g_callSv (As := [gR E 45, .int (0 : Int32)]) hc hG (mJ7_fill_53178 l E hm4) mlX3_136 mcJ7_fill_53178 msJ7_fill_53178 rfl hl.1 rfl rfl ⟨by decide, by decide⟩ (Nat.le_of_ble_eq_true rfl) ⟨by decide, by decide⟩ dX3_seeOpinions_13 rfl (fun H locs hG => ?_)
  refine lv_iconst (v := (0 : Int32)) hx hb dX3_seeOpinions_16 (by decide) ?_
  refine lv_topi (fun v7 ev7 => ?_)
  have h := g_let ev7 h
  refine lv_istore_n (lv' := [(1, .int v7), (0, gR E 36)]) hx hb dX3_seeOpinions_17 rfl hl (by decide) rfl (fun ls hl => ?_)
  exact wX3_seeOpinions_18 hc FU S6 v7 _ _ _ (lv_sub hl [1, 0] rfl) hG h
theorem mX3_seeOpinions (l : Launch) (E : GE) {S : GS} {res : (Unit × GS)} (h : fX3_seeOpinions S = some res) : gMet l E yX3_seeOpinions cX3_seeOpinions 4 none rmX3_seeOpinions [gR E 36] S none res.2 :=
  g_met (by decide) (Nat.le_of_ble_eq_true rfl) rfl fun p e s m below meth c H ls hc hG hl => wX3_seeOpinions_0 hc S H [] ls hl hG h
abbrev rmX3_placeOf : Room := { frames := 0, cells := 0, slots := 0, locals := 0 }
def fX3_placeOf (S : GS) (a0 : Int32) (a1 : Int32) : Option Int32 := (some ((a0 * (12 : Int32)) + a1))
set_option maxRecDepth 100000 in
set_option maxHeartbeats 4000000 in
theorem wX3_placeOf_0 {p : Program} {l : Launch} {e : Env} {s : State} {m : MethodId} {args : Array Value} {below : List Frame} {meth : Method} {c : Code} {E : GE} {res : Int32} (hc : GM E p s m args meth c RX3 cX3_placeOf 2 (some .int)) : ∀ (S : GS) (a0 : Int32) (a1 : Int32) (H : Heap) (locs : List Loc) (ls : Array Slot), lv_has ls 2 [(0, .int a0), (1, .int a1)] → GX E S H locs → fX3_placeOf S a0 a1 = some res → W p l e rmX3_placeOf s m args below meth c H locs 0 0 (gZ E below args s (some (.int res)) S) (F0 m 0 ls []) := by
  obtain ⟨hx, hb, -, -, -, hown, hts, -, -⟩ := id hc
  intro S a0 a1 H locs ls hl hG h
  unfold fX3_placeOf at h
  refine lv_iload_n hx hb dX3_placeOf_0 rfl (lv_at hl 0 rfl) ?_
  refine lv_bipush (v := (12 : Int32)) hx hb dX3_placeOf_1 (by decide) ?_
  refine lv_imul hx hb dX3_placeOf_3 ?_
  refine lv_iload_n hx hb dX3_placeOf_4 rfl (lv_at hl 1 rfl) ?_
  refine lv_iadd hx hb dX3_placeOf_5 ?_
  exact g_iretp hc hG dX3_placeOf_6 h
theorem mX3_placeOf (l : Launch) (E : GE) {S : GS} {a0 : Int32} {a1 : Int32} {res : Int32} (h : fX3_placeOf S a0 a1 = some res) : gMet l E yX3_placeOf cX3_placeOf 2 (some .int) rmX3_placeOf [.int a0, .int a1] S (some (.int res)) S :=
  g_met (by decide) (Nat.le_of_ble_eq_true rfl) rfl fun p e s m below meth c H ls hc hG hl => wX3_placeOf_0 hc S a0 a1 H [] ls hl hG h
abbrev rmX3_seeTreatments : Room := { frames := 1, cells := 0, slots := 0, locals := 23 }
def fX3_seeTreatments_26 : Nat → GS → Int32 → Option (Unit × GS)
  | 0, _, _ => none
  | n + 1, S, a1 => (if (S.1 14 0) ≤ a1 then (some ((), S)) else gbv (fX3_counts S a1 (4 : Int32)) fun r3 => (if r3 = 0 then gbv (fX3_counts S a1 (2 : Int32)) fun r6 => (if r6 = 0 then gbv (fX3_counts S a1 (3 : Int32)) fun r9 => (if r9 = 0 then glet (a1 + (1 : Int32)) fun v11 => (fX3_seeTreatments_26 n S v11) else (if gib a1 120 = true then (if gib (S.1 19 a1.toNatClampNeg) 12 = true then gbv (fX3_placeOf S (S.1 18 a1.toNatClampNeg) (S.1 37 ((S.1 19 a1.toNatClampNeg)).toNatClampNeg)) fun r15 => (if gib r15 384 = true then glet (gsi S 41 (r15.toNatClampNeg) ((S.1 41 r15.toNatClampNeg) ||| ((1 : Int32) <<< ((S.1 17 a1.toNatClampNeg) &&& 31)))) fun S17 => glet (a1 + (1 : Int32)) fun v18 => (fX3_seeTreatments_26 n S17 v18) else none) else none) else none)) else (if gib a1 120 = true then (if gib (S.1 19 a1.toNatClampNeg) 12 = true then gbv (fX3_placeOf S (S.1 18 a1.toNatClampNeg) (S.1 37 ((S.1 19 a1.toNatClampNeg)).toNatClampNeg)) fun r22 => (if gib r22 384 = true then glet (gsi S 40 (r22.toNatClampNeg) ((S.1 40 r22.toNatClampNeg) ||| ((1 : Int32) <<< ((S.1 17 a1.toNatClampNeg) &&& 31)))) fun S24 => glet (a1 + (1 : Int32)) fun v25 => (fX3_seeTreatments_26 n S24 v25) else none) else none) else none)) else (if gib a1 120 = true then (if gib (S.1 18 a1.toNatClampNeg) 32 = true then glet (gsi S 39 (((S.1 18 a1.toNatClampNeg)).toNatClampNeg) ((S.1 39 ((S.1 18 a1.toNatClampNeg)).toNatClampNeg) ||| ((1 : Int32) <<< ((S.1 17 a1.toNatClampNeg) &&& 31)))) fun S28 => glet (a1 + (1 : Int32)) fun v29 => (fX3_seeTreatments_26 n S28 v29) else none) else none)))
set_option maxRecDepth 100000 in
set_option maxHeartbeats 4000000 in
theorem wX3_seeTreatments_26 {p : Program} {l : Launch} {e : Env} {s : State} {m : MethodId} {args : Array Value} {below : List Frame} {meth : Method} {c : Code} {E : GE} {res : (Unit × GS)} (hc : GM E p s m args meth c RX3 cX3_seeTreatments 2 none) : ∀ (n : Nat), ∀ (S : GS) (a1 : Int32) (H : Heap) (locs : List Loc) (ls : Array Slot), lv_has ls 2 [(0, gR E 36), (1, .int a1)] → GX E S H locs → fX3_seeTreatments_26 n S a1 = some res → W p l e rmX3_seeTreatments s m args below meth c H locs 0 0 (gZ E below args s none res.2) (F0 m 26 ls []) := by
  obtain ⟨hx, hb, -, -, -, hown, hts, -, -⟩ := id hc
  intro n
  induction n with
  | zero => intro S a1 H locs ls hl hG h; cases h
  | succ n ih =>
    intro S a1 H locs ls hl hG h
    rw [fX3_seeTreatments_26] at h
    refine lv_iload_n hx hb dX3_seeTreatments_26 rfl (lv_at hl 1 rfl) ?_
    refine lv_aload_n hx hb dX3_seeTreatments_27 rfl (lv_at hl 0 rfl) ?_
    refine g_getR hc hG 36 14 flX3_53 rfl rfl rfl dX3_seeTreatments_28 ?_
    refine g_getI hc hG 14 flX3_96 rfl rfl dX3_seeTreatments_31 ?_
    refine lv_icmp_ge (tgt := 194) hx hb dX3_seeTreatments_34 (by decide) (fun c1 => ?_) (fun c1 => ?_)
    · have h := g_pos c1 h
      exact g_vret hc hG dX3_seeTreatments_194 h
    · have h := g_neg c1 h
      refine lv_aload_n hx hb dX3_seeTreatments_37 rfl (lv_at hl 0 rfl) ?_
      refine lv_iload_n hx hb dX3_seeTreatments_38 rfl (lv_at hl 1 rfl) ?_
      refine lv_iconst (v := (4 : Int32)) hx hb dX3_seeTreatments_39 (by decide) ?_
      obtain ⟨r3, hm2, h⟩ := g_bv h
      refine g_callVi (As := [.int a1, .int (4 : Int32)]) hc hG (mX3_counts l E hm2) mlX3_119 mcX3_counts miX3_counts rfl rfl rfl rfl hl.1 rfl rfl ⟨by decide, by decide⟩ (Nat.le_of_ble_eq_true rfl) ⟨by decide, by decide⟩ dX3_seeTreatments_40 rfl (fun H locs hG => ?_)
      refine lv_if_eq (tgt := 77) hx hb dX3_seeTreatments_43 (by decide) (fun c4 => ?_) (fun c4 => ?_)
      · have h := g_pos c4 h
        refine lv_aload_n hx hb dX3_seeTreatments_77 rfl (lv_at hl 0 rfl) ?_
        refine lv_iload_n hx hb dX3_seeTreatments_78 rfl (lv_at hl 1 rfl) ?_
        refine lv_iconst (v := (2 : Int32)) hx hb dX3_seeTreatments_79 (by decide) ?_
        obtain ⟨r6, hm5, h⟩ := g_bv h
        refine g_callVi (As := [.int a1, .int (2 : Int32)]) hc hG (mX3_counts l E hm5) mlX3_119 mcX3_counts miX3_counts rfl rfl rfl rfl hl.1 rfl rfl ⟨by decide, by decide⟩ (Nat.le_of_ble_eq_true rfl) ⟨by decide, by decide⟩ dX3_seeTreatments_80 rfl (fun H locs hG => ?_)
        refine lv_if_eq (tgt := 134) hx hb dX3_seeTreatments_83 (by decide) (fun c7 => ?_) (fun c7 => ?_)
        · have h := g_pos c7 h
          refine lv_aload_n hx hb dX3_seeTreatments_134 rfl (lv_at hl 0 rfl) ?_
          refine lv_iload_n hx hb dX3_seeTreatments_135 rfl (lv_at hl 1 rfl) ?_
          refine lv_iconst (v := (3 : Int32)) hx hb dX3_seeTreatments_136 (by decide) ?_
          obtain ⟨r9, hm8, h⟩ := g_bv h
          refine g_callVi (As := [.int a1, .int (3 : Int32)]) hc hG (mX3_counts l E hm8) mlX3_119 mcX3_counts miX3_counts rfl rfl rfl rfl hl.1 rfl rfl ⟨by decide, by decide⟩ (Nat.le_of_ble_eq_true rfl) ⟨by decide, by decide⟩ dX3_seeTreatments_137 rfl (fun H locs hG => ?_)
          refine lv_if_eq (tgt := 188) hx hb dX3_seeTreatments_140 (by decide) (fun c10 => ?_) (fun c10 => ?_)
          · have h := g_pos c10 h
            obtain ⟨v11, ev11⟩ : ∃ y : Int32, y = (a1 + (1 : Int32)) := ⟨_, rfl⟩
            have h := g_let ev11 h
            refine lv_iinc (v := v11) (lv' := [(1, .int v11), (0, gR E 36)]) hx hb dX3_seeTreatments_188 hl (k := 1) rfl (by rw [ev11]; rfl) (by decide) rfl (fun ls hl => ?_)
            refine lv_goto (tgt := 26) hx hb dX3_seeTreatments_191 (by decide) ?_
            exact ih S v11 _ _ _ (lv_sub hl [1, 0] rfl) hG h
          · have h := g_neg c10 h
            refine lv_aload_n hx hb dX3_seeTreatments_143 rfl (lv_at hl 0 rfl) ?_
            refine g_getR hc hG 36 41 flX3_24 rfl rfl rfl dX3_seeTreatments_144 ?_
            refine lv_aload_n hx hb dX3_seeTreatments_147 rfl (lv_at hl 0 rfl) ?_
            refine g_getR hc hG 36 14 flX3_53 rfl rfl rfl dX3_seeTreatments_148 ?_
            refine g_getR hc hG 14 18 flX3_107 rfl rfl rfl dX3_seeTreatments_151 ?_
            refine lv_iload_n hx hb dX3_seeTreatments_154 rfl (lv_at hl 1 rfl) ?_
            obtain ⟨hi12, h⟩ := g_if h
            refine g_iald hc hG 18 120 (a1.toNatClampNeg) rfl rfl hi12 rfl dX3_seeTreatments_155 ?_
            refine lv_aload_n hx hb dX3_seeTreatments_156 rfl (lv_at hl 0 rfl) ?_
            refine g_getR hc hG 36 37 flX3_9 rfl rfl rfl dX3_seeTreatments_157 ?_
            refine lv_aload_n hx hb dX3_seeTreatments_160 rfl (lv_at hl 0 rfl) ?_
            refine g_getR hc hG 36 14 flX3_53 rfl rfl rfl dX3_seeTreatments_161 ?_
            refine g_getR hc hG 14 19 flX3_122 rfl rfl rfl dX3_seeTreatments_164 ?_
            refine lv_iload_n hx hb dX3_seeTreatments_167 rfl (lv_at hl 1 rfl) ?_
            refine g_iald hc hG 19 120 (a1.toNatClampNeg) rfl rfl hi12 rfl dX3_seeTreatments_168 ?_
            obtain ⟨hi13, h⟩ := g_if h
            refine g_iald hc hG 37 12 (((S.1 19 a1.toNatClampNeg)).toNatClampNeg) rfl rfl hi13 rfl dX3_seeTreatments_169 ?_
            obtain ⟨r15, hm14, h⟩ := g_bv h
            refine g_callSi (As := [.int (S.1 18 a1.toNatClampNeg), .int (S.1 37 ((S.1 19 a1.toNatClampNeg)).toNatClampNeg)]) hc hG (mX3_placeOf l E hm14) mlX3_148 mcX3_placeOf msX3_placeOf rfl hl.1 rfl rfl ⟨by decide, by decide⟩ (Nat.le_of_ble_eq_true rfl) ⟨by decide, by decide⟩ dX3_seeTreatments_170 rfl (fun H locs hG => ?_)
            refine lv_dup2_11 hx hb dX3_seeTreatments_173 rfl rfl ?_
            obtain ⟨hi16, h⟩ := g_if h
            refine g_iald hc hG 41 384 (r15.toNatClampNeg) rfl rfl hi16 rfl dX3_seeTreatments_174 ?_
            refine lv_iconst (v := (1 : Int32)) hx hb dX3_seeTreatments_175 (by decide) ?_
            refine lv_aload_n hx hb dX3_seeTreatments_176 rfl (lv_at hl 0 rfl) ?_
            refine g_getR hc hG 36 14 flX3_53 rfl rfl rfl dX3_seeTreatments_177 ?_
            refine g_getR hc hG 14 17 flX3_110 rfl rfl rfl dX3_seeTreatments_180 ?_
            refine lv_iload_n hx hb dX3_seeTreatments_183 rfl (lv_at hl 1 rfl) ?_
            refine g_iald hc hG 17 120 (a1.toNatClampNeg) rfl rfl hi12 rfl dX3_seeTreatments_184 ?_
            refine lv_ishl hx hb dX3_seeTreatments_185 ?_
            refine lv_ior hx hb dX3_seeTreatments_186 ?_
            refine g_iast hc hG 41 384 (r15.toNatClampNeg) rfl rfl hi16 rfl dX3_seeTreatments_187 (fun S17 H locs eS17 hG => ?_)
            have h := g_let eS17 h
            obtain ⟨v18, ev18⟩ : ∃ y : Int32, y = (a1 + (1 : Int32)) := ⟨_, rfl⟩
            have h := g_let ev18 h
            refine lv_iinc (v := v18) (lv' := [(1, .int v18), (0, gR E 36)]) hx hb dX3_seeTreatments_188 hl (k := 1) rfl (by rw [ev18]; rfl) (by decide) rfl (fun ls hl => ?_)
            refine lv_goto (tgt := 26) hx hb dX3_seeTreatments_191 (by decide) ?_
            exact ih S17 v18 _ _ _ (lv_sub hl [1, 0] rfl) hG h
        · have h := g_neg c7 h
          refine lv_aload_n hx hb dX3_seeTreatments_86 rfl (lv_at hl 0 rfl) ?_
          refine g_getR hc hG 36 40 flX3_21 rfl rfl rfl dX3_seeTreatments_87 ?_
          refine lv_aload_n hx hb dX3_seeTreatments_90 rfl (lv_at hl 0 rfl) ?_
          refine g_getR hc hG 36 14 flX3_53 rfl rfl rfl dX3_seeTreatments_91 ?_
          refine g_getR hc hG 14 18 flX3_107 rfl rfl rfl dX3_seeTreatments_94 ?_
          refine lv_iload_n hx hb dX3_seeTreatments_97 rfl (lv_at hl 1 rfl) ?_
          obtain ⟨hi19, h⟩ := g_if h
          refine g_iald hc hG 18 120 (a1.toNatClampNeg) rfl rfl hi19 rfl dX3_seeTreatments_98 ?_
          refine lv_aload_n hx hb dX3_seeTreatments_99 rfl (lv_at hl 0 rfl) ?_
          refine g_getR hc hG 36 37 flX3_9 rfl rfl rfl dX3_seeTreatments_100 ?_
          refine lv_aload_n hx hb dX3_seeTreatments_103 rfl (lv_at hl 0 rfl) ?_
          refine g_getR hc hG 36 14 flX3_53 rfl rfl rfl dX3_seeTreatments_104 ?_
          refine g_getR hc hG 14 19 flX3_122 rfl rfl rfl dX3_seeTreatments_107 ?_
          refine lv_iload_n hx hb dX3_seeTreatments_110 rfl (lv_at hl 1 rfl) ?_
          refine g_iald hc hG 19 120 (a1.toNatClampNeg) rfl rfl hi19 rfl dX3_seeTreatments_111 ?_
          obtain ⟨hi20, h⟩ := g_if h
          refine g_iald hc hG 37 12 (((S.1 19 a1.toNatClampNeg)).toNatClampNeg) rfl rfl hi20 rfl dX3_seeTreatments_112 ?_
          obtain ⟨r22, hm21, h⟩ := g_bv h
          refine g_callSi (As := [.int (S.1 18 a1.toNatClampNeg), .int (S.1 37 ((S.1 19 a1.toNatClampNeg)).toNatClampNeg)]) hc hG (mX3_placeOf l E hm21) mlX3_148 mcX3_placeOf msX3_placeOf rfl hl.1 rfl rfl ⟨by decide, by decide⟩ (Nat.le_of_ble_eq_true rfl) ⟨by decide, by decide⟩ dX3_seeTreatments_113 rfl (fun H locs hG => ?_)
          refine lv_dup2_11 hx hb dX3_seeTreatments_116 rfl rfl ?_
          obtain ⟨hi23, h⟩ := g_if h
          refine g_iald hc hG 40 384 (r22.toNatClampNeg) rfl rfl hi23 rfl dX3_seeTreatments_117 ?_
          refine lv_iconst (v := (1 : Int32)) hx hb dX3_seeTreatments_118 (by decide) ?_
          refine lv_aload_n hx hb dX3_seeTreatments_119 rfl (lv_at hl 0 rfl) ?_
          refine g_getR hc hG 36 14 flX3_53 rfl rfl rfl dX3_seeTreatments_120 ?_
          refine g_getR hc hG 14 17 flX3_110 rfl rfl rfl dX3_seeTreatments_123 ?_
          refine lv_iload_n hx hb dX3_seeTreatments_126 rfl (lv_at hl 1 rfl) ?_
          refine g_iald hc hG 17 120 (a1.toNatClampNeg) rfl rfl hi19 rfl dX3_seeTreatments_127 ?_
          refine lv_ishl hx hb dX3_seeTreatments_128 ?_
          refine lv_ior hx hb dX3_seeTreatments_129 ?_
          refine g_iast hc hG 40 384 (r22.toNatClampNeg) rfl rfl hi23 rfl dX3_seeTreatments_130 (fun S24 H locs eS24 hG => ?_)
          have h := g_let eS24 h
          refine lv_goto (tgt := 188) hx hb dX3_seeTreatments_131 (by decide) ?_
          obtain ⟨v25, ev25⟩ : ∃ y : Int32, y = (a1 + (1 : Int32)) := ⟨_, rfl⟩
          have h := g_let ev25 h
          refine lv_iinc (v := v25) (lv' := [(1, .int v25), (0, gR E 36)]) hx hb dX3_seeTreatments_188 hl (k := 1) rfl (by rw [ev25]; rfl) (by decide) rfl (fun ls hl => ?_)
          refine lv_goto (tgt := 26) hx hb dX3_seeTreatments_191 (by decide) ?_
          exact ih S24 v25 _ _ _ (lv_sub hl [1, 0] rfl) hG h
      · have h := g_neg c4 h
        refine lv_aload_n hx hb dX3_seeTreatments_46 rfl (lv_at hl 0 rfl) ?_
        refine g_getR hc hG 36 39 flX3_18 rfl rfl rfl dX3_seeTreatments_47 ?_
        refine lv_aload_n hx hb dX3_seeTreatments_50 rfl (lv_at hl 0 rfl) ?_
        refine g_getR hc hG 36 14 flX3_53 rfl rfl rfl dX3_seeTreatments_51 ?_
        refine g_getR hc hG 14 18 flX3_107 rfl rfl rfl dX3_seeTreatments_54 ?_
        refine lv_iload_n hx hb dX3_seeTreatments_57 rfl (lv_at hl 1 rfl) ?_
        obtain ⟨hi26, h⟩ := g_if h
        refine g_iald hc hG 18 120 (a1.toNatClampNeg) rfl rfl hi26 rfl dX3_seeTreatments_58 ?_
        refine lv_dup2_11 hx hb dX3_seeTreatments_59 rfl rfl ?_
        obtain ⟨hi27, h⟩ := g_if h
        refine g_iald hc hG 39 32 (((S.1 18 a1.toNatClampNeg)).toNatClampNeg) rfl rfl hi27 rfl dX3_seeTreatments_60 ?_
        refine lv_iconst (v := (1 : Int32)) hx hb dX3_seeTreatments_61 (by decide) ?_
        refine lv_aload_n hx hb dX3_seeTreatments_62 rfl (lv_at hl 0 rfl) ?_
        refine g_getR hc hG 36 14 flX3_53 rfl rfl rfl dX3_seeTreatments_63 ?_
        refine g_getR hc hG 14 17 flX3_110 rfl rfl rfl dX3_seeTreatments_66 ?_
        refine lv_iload_n hx hb dX3_seeTreatments_69 rfl (lv_at hl 1 rfl) ?_
        refine g_iald hc hG 17 120 (a1.toNatClampNeg) rfl rfl hi26 rfl dX3_seeTreatments_70 ?_
        refine lv_ishl hx hb dX3_seeTreatments_71 ?_
        refine lv_ior hx hb dX3_seeTreatments_72 ?_
        refine g_iast hc hG 39 32 (((S.1 18 a1.toNatClampNeg)).toNatClampNeg) rfl rfl hi27 rfl dX3_seeTreatments_73 (fun S28 H locs eS28 hG => ?_)
        have h := g_let eS28 h
        refine lv_goto (tgt := 188) hx hb dX3_seeTreatments_74 (by decide) ?_
        obtain ⟨v29, ev29⟩ : ∃ y : Int32, y = (a1 + (1 : Int32)) := ⟨_, rfl⟩
        have h := g_let ev29 h
        refine lv_iinc (v := v29) (lv' := [(1, .int v29), (0, gR E 36)]) hx hb dX3_seeTreatments_188 hl (k := 1) rfl (by rw [ev29]; rfl) (by decide) rfl (fun ls hl => ?_)
        refine lv_goto (tgt := 26) hx hb dX3_seeTreatments_191 (by decide) ?_
        exact ih S28 v29 _ _ _ (lv_sub hl [1, 0] rfl) hG h
def fX3_seeTreatments (S : GS) : Option (Unit × GS) := gbd (fJ7_fill_53178 S 39 (0 : Int32)) fun r2 S3 => gbd (fJ7_fill_53178 S3 40 (0 : Int32)) fun r5 S6 => gbd (fJ7_fill_53178 S6 41 (0 : Int32)) fun r8 S9 => glet (0 : Int32) fun v10 => (fX3_seeTreatments_26 FU S9 v10)
set_option maxRecDepth 100000 in
set_option maxHeartbeats 4000000 in
theorem wX3_seeTreatments_0 {p : Program} {l : Launch} {e : Env} {s : State} {m : MethodId} {args : Array Value} {below : List Frame} {meth : Method} {c : Code} {E : GE} {res : (Unit × GS)} (hc : GM E p s m args meth c RX3 cX3_seeTreatments 2 none) : ∀ (S : GS) (H : Heap) (locs : List Loc) (ls : Array Slot), lv_has ls 2 [(0, gR E 36)] → GX E S H locs → fX3_seeTreatments S = some res → W p l e rmX3_seeTreatments s m args below meth c H locs 0 0 (gZ E below args s none res.2) (F0 m 0 ls []) := by
  obtain ⟨hx, hb, -, -, -, hown, hts, -, -⟩ := id hc
  intro S H locs ls hl hG h
  unfold fX3_seeTreatments at h
  refine lv_aload_n hx hb dX3_seeTreatments_0 rfl (lv_at hl 0 rfl) ?_
  refine g_getR hc hG 36 39 flX3_18 rfl rfl rfl dX3_seeTreatments_1 ?_
  refine lv_iconst (v := (0 : Int32)) hx hb dX3_seeTreatments_4 (by decide) ?_
  obtain ⟨r2, S3, hm1, h⟩ := g_bd h
  refine g_callSv (As := [gR E 39, .int (0 : Int32)]) hc hG (mJ7_fill_53178 l E hm1) mlX3_136 mcJ7_fill_53178 msJ7_fill_53178 rfl hl.1 rfl rfl ⟨by decide, by decide⟩ (Nat.le_of_ble_eq_true rfl) ⟨by decide, by decide⟩ dX3_seeTreatments_5 rfl (fun H locs hG => ?_)
  refine lv_aload_n hx hb dX3_seeTreatments_8 rfl (lv_at hl 0 rfl) ?_
  refine g_getR hc hG 36 40 flX3_21 rfl rfl rfl dX3_seeTreatments_9 ?_
  refine lv_iconst (v := (0 : Int32)) hx hb dX3_seeTreatments_12 (by decide) ?_
  obtain ⟨r5, S6, hm4, h⟩ := g_bd h
  refine g_callSv (As := [gR E 40, .int (0 : Int32)]) hc hG (mJ7_fill_53178 l E hm4) mlX3_136 mcJ7_fill_53178 msJ7_fill_53178 rfl hl.1 rfl rfl ⟨by decide, by decide⟩ (Nat.le_of_ble_eq_true rfl) ⟨by decide, by decide⟩ dX3_seeTreatments_13 rfl (fun H locs hG => ?_)
  refine lv_aload_n hx hb dX3_seeTreatments_16 rfl (lv_at hl 0 rfl) ?_
  refine g_getR hc hG 36 41 flX3_24 rfl rfl rfl dX3_seeTreatments_17 ?_
  refine lv_iconst (v := (0 : Int32)) hx hb dX3_seeTreatments_20 (by decide) ?_
  obtain ⟨r8, S9, hm7, h⟩ := g_bd h
  refine g_callSv (As := [gR E 41, .int (0 : Int32)]) hc hG (mJ7_fill_53178 l E hm7) mlX3_136 mcJ7_fill_53178 msJ7_fill_53178 rfl hl.1 rfl rfl ⟨by decide, by decide⟩ (Nat.le_of_ble_eq_true rfl) ⟨by decide, by decide⟩ dX3_seeTreatments_21 rfl (fun H locs hG => ?_)
  refine lv_iconst (v := (0 : Int32)) hx hb dX3_seeTreatments_24 (by decide) ?_
  refine lv_topi (fun v10 ev10 => ?_)
  have h := g_let ev10 h
  refine lv_istore_n (lv' := [(1, .int v10), (0, gR E 36)]) hx hb dX3_seeTreatments_25 rfl hl (by decide) rfl (fun ls hl => ?_)
  exact wX3_seeTreatments_26 hc FU S9 v10 _ _ _ (lv_sub hl [1, 0] rfl) hG h
theorem mX3_seeTreatments (l : Launch) (E : GE) {S : GS} {res : (Unit × GS)} (h : fX3_seeTreatments S = some res) : gMet l E yX3_seeTreatments cX3_seeTreatments 2 none rmX3_seeTreatments [gR E 36] S none res.2 :=
  g_met (by decide) (Nat.le_of_ble_eq_true rfl) rfl fun p e s m below meth c H ls hc hG hl => wX3_seeTreatments_0 hc S H [] ls hl hG h
abbrev rmX3_seeStatutes : Room := { frames := 1, cells := 0, slots := 0, locals := 22 }
def fX3_seeStatutes_37 (k7 : GS → Int32 → Option (Unit × GS)) (S : GS) (a1 : Int32) : Option (Unit × GS) := (if gib (S.1 36 14) 120 = true then glet (gsi S 46 (((S.1 36 14)).toNatClampNeg) a1) fun S2 => glet (gsi S2 36 14 ((S2.1 36 14) + (1 : Int32))) fun S3 => glet (a1 + (1 : Int32)) fun v4 => (k7 S3 v4) else none)
set_option maxRecDepth 100000 in
set_option maxHeartbeats 4000000 in
theorem wX3_seeStatutes_37 {p : Program} {l : Launch} {e : Env} {s : State} {m : MethodId} {args : Array Value} {below : List Frame} {meth : Method} {c : Code} {E : GE} {res : (Unit × GS)} {k7 : GS → Int32 → Option (Unit × GS)} (hc : GM E p s m args meth c RX3 cX3_seeStatutes 2 none) (hk7 : ∀ (S : GS) (a1 : Int32) (H : Heap) (locs : List Loc) (ls : Array Slot), lv_has ls 2 [(0, gR E 36), (1, .int a1)] → GX E S H locs → k7 S a1 = some res → W p l e rmX3_seeStatutes s m args below meth c H locs 0 0 (gZ E below args s none res.2) (F0 m 7 ls [])) : ∀ (S : GS) (a1 : Int32) (H : Heap) (locs : List Loc) (ls : Array Slot), lv_has ls 2 [(0, gR E 36), (1, .int a1)] → GX E S H locs → fX3_seeStatutes_37 k7 S a1 = some res → W p l e rmX3_seeStatutes s m args below meth c H locs 0 0 (gZ E below args s none res.2) (F0 m 37 ls []) := by
  obtain ⟨hx, hb, -, -, -, hown, hts, -, -⟩ := id hc
  intro S a1 H locs ls hl hG h
  unfold fX3_seeStatutes_37 at h
  refine lv_aload_n hx hb dX3_seeStatutes_37 rfl (lv_at hl 0 rfl) ?_
  refine g_getR hc hG 36 46 flX3_39 rfl rfl rfl dX3_seeStatutes_38 ?_
  refine lv_aload_n hx hb dX3_seeStatutes_41 rfl (lv_at hl 0 rfl) ?_
  refine g_getI hc hG 36 flX3_151 rfl rfl dX3_seeStatutes_42 ?_
  refine lv_iload_n hx hb dX3_seeStatutes_45 rfl (lv_at hl 1 rfl) ?_
  obtain ⟨hi1, h⟩ := g_if h
  refine g_iast hc hG 46 120 (((S.1 36 14)).toNatClampNeg) rfl rfl hi1 rfl dX3_seeStatutes_46 (fun S2 H locs eS2 hG => ?_)
  have h := g_let eS2 h
  refine lv_aload_n hx hb dX3_seeStatutes_47 rfl (lv_at hl 0 rfl) ?_
  refine lv_dup hx hb dX3_seeStatutes_48 rfl ?_
  refine g_getI hc hG 36 flX3_151 rfl rfl dX3_seeStatutes_49 ?_
  refine lv_iconst (v := (1 : Int32)) hx hb dX3_seeStatutes_52 (by decide) ?_
  refine lv_iadd hx hb dX3_seeStatutes_53 ?_
  refine g_putI hc hG 36 fpX3_151 rfl rfl rfl rfl dX3_seeStatutes_54 (fun S3 H locs eS3 hG => ?_)
  have h := g_let eS3 h
  obtain ⟨v4, ev4⟩ : ∃ y : Int32, y = (a1 + (1 : Int32)) := ⟨_, rfl⟩
  have h := g_let ev4 h
  refine lv_iinc (v := v4) (lv' := [(1, .int v4), (0, gR E 36)]) hx hb dX3_seeStatutes_57 hl (k := 1) rfl (by rw [ev4]; rfl) (by decide) rfl (fun ls hl => ?_)
  refine lv_goto (tgt := 7) hx hb dX3_seeStatutes_60 (by decide) ?_
  exact hk7 S3 v4 _ _ _ (lv_sub hl [1, 0] rfl) hG h
def fX3_seeStatutes_7 : Nat → GS → Int32 → Option (Unit × GS)
  | 0, _, _ => none
  | n + 1, S, a1 => (if (S.1 14 0) ≤ a1 then (some ((), S)) else gbv (fX3_counts S a1 (5 : Int32)) fun r3 => (if r3 = 0 then gbv (fX3_counts S a1 (6 : Int32)) fun r6 => (if r6 = 0 then glet (a1 + (1 : Int32)) fun v8 => (fX3_seeStatutes_7 n S v8) else (fX3_seeStatutes_37 (fX3_seeStatutes_7 n) S a1)) else (fX3_seeStatutes_37 (fX3_seeStatutes_7 n) S a1)))
set_option maxRecDepth 100000 in
set_option maxHeartbeats 4000000 in
theorem wX3_seeStatutes_7 {p : Program} {l : Launch} {e : Env} {s : State} {m : MethodId} {args : Array Value} {below : List Frame} {meth : Method} {c : Code} {E : GE} {res : (Unit × GS)} (hc : GM E p s m args meth c RX3 cX3_seeStatutes 2 none) : ∀ (n : Nat), ∀ (S : GS) (a1 : Int32) (H : Heap) (locs : List Loc) (ls : Array Slot), lv_has ls 2 [(0, gR E 36), (1, .int a1)] → GX E S H locs → fX3_seeStatutes_7 n S a1 = some res → W p l e rmX3_seeStatutes s m args below meth c H locs 0 0 (gZ E below args s none res.2) (F0 m 7 ls []) := by
  obtain ⟨hx, hb, -, -, -, hown, hts, -, -⟩ := id hc
  intro n
  induction n with
  | zero => intro S a1 H locs ls hl hG h; cases h
  | succ n ih =>
    intro S a1 H locs ls hl hG h
    rw [fX3_seeStatutes_7] at h
    refine lv_iload_n hx hb dX3_seeStatutes_7 rfl (lv_at hl 1 rfl) ?_
    refine lv_aload_n hx hb dX3_seeStatutes_8 rfl (lv_at hl 0 rfl) ?_
    refine g_getR hc hG 36 14 flX3_53 rfl rfl rfl dX3_seeStatutes_9 ?_
    refine g_getI hc hG 14 flX3_96 rfl rfl dX3_seeStatutes_12 ?_
    refine lv_icmp_ge (tgt := 63) hx hb dX3_seeStatutes_15 (by decide) (fun c1 => ?_) (fun c1 => ?_)
    · have h := g_pos c1 h
      exact g_vret hc hG dX3_seeStatutes_63 h
    · have h := g_neg c1 h
      refine lv_aload_n hx hb dX3_seeStatutes_18 rfl (lv_at hl 0 rfl) ?_
      refine lv_iload_n hx hb dX3_seeStatutes_19 rfl (lv_at hl 1 rfl) ?_
      refine lv_iconst (v := (5 : Int32)) hx hb dX3_seeStatutes_20 (by decide) ?_
      obtain ⟨r3, hm2, h⟩ := g_bv h
      refine g_callVi (As := [.int a1, .int (5 : Int32)]) hc hG (mX3_counts l E hm2) mlX3_119 mcX3_counts miX3_counts rfl rfl rfl rfl hl.1 rfl rfl ⟨by decide, by decide⟩ (Nat.le_of_ble_eq_true rfl) ⟨by decide, by decide⟩ dX3_seeStatutes_21 rfl (fun H locs hG => ?_)
      refine lv_if_ne (tgt := 37) hx hb dX3_seeStatutes_24 (by decide) (fun c4 => ?_) (fun c4 => ?_)
      · have h := g_neg c4 h
        exact wX3_seeStatutes_37 hc ih S a1 _ _ _ (lv_sub hl [0, 1] rfl) hG h
      · have h := g_pos c4 h
        refine lv_aload_n hx hb dX3_seeStatutes_27 rfl (lv_at hl 0 rfl) ?_
        refine lv_iload_n hx hb dX3_seeStatutes_28 rfl (lv_at hl 1 rfl) ?_
        refine lv_bipush (v := (6 : Int32)) hx hb dX3_seeStatutes_29 (by decide) ?_
        obtain ⟨r6, hm5, h⟩ := g_bv h
        refine g_callVi (As := [.int a1, .int (6 : Int32)]) hc hG (mX3_counts l E hm5) mlX3_119 mcX3_counts miX3_counts rfl rfl rfl rfl hl.1 rfl rfl ⟨by decide, by decide⟩ (Nat.le_of_ble_eq_true rfl) ⟨by decide, by decide⟩ dX3_seeStatutes_31 rfl (fun H locs hG => ?_)
        refine lv_if_eq (tgt := 57) hx hb dX3_seeStatutes_34 (by decide) (fun c7 => ?_) (fun c7 => ?_)
        · have h := g_pos c7 h
          obtain ⟨v8, ev8⟩ : ∃ y : Int32, y = (a1 + (1 : Int32)) := ⟨_, rfl⟩
          have h := g_let ev8 h
          refine lv_iinc (v := v8) (lv' := [(1, .int v8), (0, gR E 36)]) hx hb dX3_seeStatutes_57 hl (k := 1) rfl (by rw [ev8]; rfl) (by decide) rfl (fun ls hl => ?_)
          refine lv_goto (tgt := 7) hx hb dX3_seeStatutes_60 (by decide) ?_
          exact ih S v8 _ _ _ (lv_sub hl [1, 0] rfl) hG h
        · have h := g_neg c7 h
          exact wX3_seeStatutes_37 hc ih S a1 _ _ _ (lv_sub hl [0, 1] rfl) hG h
def fX3_seeStatutes (S : GS) : Option (Unit × GS) := glet (gsi S 36 14 (0 : Int32)) fun S1 => glet (0 : Int32) fun v2 => (fX3_seeStatutes_7 FU S1 v2)
set_option maxRecDepth 100000 in
set_option maxHeartbeats 4000000 in
theorem wX3_seeStatutes_0 {p : Program} {l : Launch} {e : Env} {s : State} {m : MethodId} {args : Array Value} {below : List Frame} {meth : Method} {c : Code} {E : GE} {res : (Unit × GS)} (hc : GM E p s m args meth c RX3 cX3_seeStatutes 2 none) : ∀ (S : GS) (H : Heap) (locs : List Loc) (ls : Array Slot), lv_has ls 2 [(0, gR E 36)] → GX E S H locs → fX3_seeStatutes S = some res → W p l e rmX3_seeStatutes s m args below meth c H locs 0 0 (gZ E below args s none res.2) (F0 m 0 ls []) := by
  obtain ⟨hx, hb, -, -, -, hown, hts, -, -⟩ := id hc
  intro S H locs ls hl hG h
  unfold fX3_seeStatutes at h
  refine lv_aload_n hx hb dX3_seeStatutes_0 rfl (lv_at hl 0 rfl) ?_
  refine lv_iconst (v := (0 : Int32)) hx hb dX3_seeStatutes_1 (by decide) ?_
  refine g_putI hc hG 36 fpX3_151 rfl rfl rfl rfl dX3_seeStatutes_2 (fun S1 H locs eS1 hG => ?_)
  have h := g_let eS1 h
  refine lv_iconst (v := (0 : Int32)) hx hb dX3_seeStatutes_5 (by decide) ?_
  refine lv_topi (fun v2 ev2 => ?_)
  have h := g_let ev2 h
  refine lv_istore_n (lv' := [(1, .int v2), (0, gR E 36)]) hx hb dX3_seeStatutes_6 rfl hl (by decide) rfl (fun ls hl => ?_)
  exact wX3_seeStatutes_7 hc FU S1 v2 _ _ _ (lv_sub hl [1, 0] rfl) hG h
theorem mX3_seeStatutes (l : Launch) (E : GE) {S : GS} {res : (Unit × GS)} (h : fX3_seeStatutes S = some res) : gMet l E yX3_seeStatutes cX3_seeStatutes 2 none rmX3_seeStatutes [gR E 36] S none res.2 :=
  g_met (by decide) (Nat.le_of_ble_eq_true rfl) rfl fun p e s m below meth c H ls hc hG hl => wX3_seeStatutes_0 hc S H [] ls hl hG h
abbrev rmX3_see : Room := { frames := 4, cells := 0, slots := 0, locals := 86 }
def fX3_see (S : GS) (a1 : Int32) (a2 : Int32) : Option (Unit × GS) := gbd (fX3_seeCases S a1 a2) fun r2 S3 => gbd (fX3_seeNotes S3 a1) fun r5 S6 => gbd (fX3_seeJoinings S6) fun r8 S9 => gbd (fX3_seeOpposed S9) fun r11 S12 => gbd (fX3_seeOpinions S12) fun r14 S15 => gbd (fX3_seeTreatments S15) fun r17 S18 => gbd (fX3_seeStatutes S18) fun r20 S21 => (some ((), S21))
set_option maxRecDepth 100000 in
set_option maxHeartbeats 4000000 in
theorem wX3_see_0 {p : Program} {l : Launch} {e : Env} {s : State} {m : MethodId} {args : Array Value} {below : List Frame} {meth : Method} {c : Code} {E : GE} {res : (Unit × GS)} (hc : GM E p s m args meth c RX3 cX3_see 3 none) : ∀ (S : GS) (a1 : Int32) (a2 : Int32) (H : Heap) (locs : List Loc) (ls : Array Slot), lv_has ls 3 [(0, gR E 36), (1, .int a1), (2, .int a2)] → GX E S H locs → fX3_see S a1 a2 = some res → W p l e rmX3_see s m args below meth c H locs 0 0 (gZ E below args s none res.2) (F0 m 0 ls []) := by
  obtain ⟨hx, hb, -, -, -, hown, hts, -, -⟩ := id hc
  intro S a1 a2 H locs ls hl hG h
  unfold fX3_see at h
  refine lv_aload_n hx hb dX3_see_0 rfl (lv_at hl 0 rfl) ?_
  refine lv_iload_n hx hb dX3_see_1 rfl (lv_at hl 1 rfl) ?_
  refine lv_iload_n hx hb dX3_see_2 rfl (lv_at hl 2 rfl) ?_
  obtain ⟨r2, S3, hm1, h⟩ := g_bd h
  refine g_callVv (As := [.int a1, .int a2]) hc hG (mX3_seeCases l E hm1) mlX3_57 mcX3_seeCases miX3_seeCases rfl rfl rfl rfl hl.1 rfl rfl ⟨by decide, by decide⟩ (Nat.le_of_ble_eq_true rfl) ⟨by decide, by decide⟩ dX3_see_3 rfl (fun H locs hG => ?_)
  refine lv_aload_n hx hb dX3_see_6 rfl (lv_at hl 0 rfl) ?_
  refine lv_iload_n hx hb dX3_see_7 rfl (lv_at hl 1 rfl) ?_
  obtain ⟨r5, S6, hm4, h⟩ := g_bd h
  refine g_callVv (As := [.int a1]) hc hG (mX3_seeNotes l E hm4) mlX3_61 mcX3_seeNotes miX3_seeNotes rfl rfl rfl rfl hl.1 rfl rfl ⟨by decide, by decide⟩ (Nat.le_of_ble_eq_true rfl) ⟨by decide, by decide⟩ dX3_see_8 rfl (fun H locs hG => ?_)
  refine lv_aload_n hx hb dX3_see_11 rfl (lv_at hl 0 rfl) ?_
  obtain ⟨r8, S9, hm7, h⟩ := g_bd h
  refine g_callVv (As := []) hc hG (mX3_seeJoinings l E hm7) mlX3_65 mcX3_seeJoinings miX3_seeJoinings rfl rfl rfl rfl hl.1 rfl rfl ⟨by decide, by decide⟩ (Nat.le_of_ble_eq_true rfl) ⟨by decide, by decide⟩ dX3_see_12 rfl (fun H locs hG => ?_)
  refine lv_aload_n hx hb dX3_see_15 rfl (lv_at hl 0 rfl) ?_
  obtain ⟨r11, S12, hm10, h⟩ := g_bd h
  refine g_callVv (As := []) hc hG (mX3_seeOpposed l E hm10) mlX3_68 mcX3_seeOpposed miX3_seeOpposed rfl rfl rfl rfl hl.1 rfl rfl ⟨by decide, by decide⟩ (Nat.le_of_ble_eq_true rfl) ⟨by decide, by decide⟩ dX3_see_16 rfl (fun H locs hG => ?_)
  refine lv_aload_n hx hb dX3_see_19 rfl (lv_at hl 0 rfl) ?_
  obtain ⟨r14, S15, hm13, h⟩ := g_bd h
  refine g_callVv (As := []) hc hG (mX3_seeOpinions l E hm13) mlX3_71 mcX3_seeOpinions miX3_seeOpinions rfl rfl rfl rfl hl.1 rfl rfl ⟨by decide, by decide⟩ (Nat.le_of_ble_eq_true rfl) ⟨by decide, by decide⟩ dX3_see_20 rfl (fun H locs hG => ?_)
  refine lv_aload_n hx hb dX3_see_23 rfl (lv_at hl 0 rfl) ?_
  obtain ⟨r17, S18, hm16, h⟩ := g_bd h
  refine g_callVv (As := []) hc hG (mX3_seeTreatments l E hm16) mlX3_74 mcX3_seeTreatments miX3_seeTreatments rfl rfl rfl rfl hl.1 rfl rfl ⟨by decide, by decide⟩ (Nat.le_of_ble_eq_true rfl) ⟨by decide, by decide⟩ dX3_see_24 rfl (fun H locs hG => ?_)
  refine lv_aload_n hx hb dX3_see_27 rfl (lv_at hl 0 rfl) ?_
  obtain ⟨r20, S21, hm19, h⟩ := g_bd h
  refine g_callVv (As := []) hc hG (mX3_seeStatutes l E hm19) mlX3_77 mcX3_seeStatutes miX3_seeStatutes rfl rfl rfl rfl hl.1 rfl rfl ⟨by decide, by decide⟩ (Nat.le_of_ble_eq_true rfl) ⟨by decide, by decide⟩ dX3_see_28 rfl (fun H locs hG => ?_)
  exact g_vret hc hG dX3_see_31 h
theorem mX3_see (l : Launch) (E : GE) {S : GS} {a1 : Int32} {a2 : Int32} {res : (Unit × GS)} (h : fX3_see S a1 a2 = some res) : gMet l E yX3_see cX3_see 3 none rmX3_see [gR E 36, .int a1, .int a2] S none res.2 :=
  g_met (by decide) (Nat.le_of_ble_eq_true rfl) rfl fun p e s m below meth c H ls hc hG hl => wX3_see_0 hc S a1 a2 H [] ls hl hG h
abbrev rmX4_add : Room := { frames := 0, cells := 0, slots := 0, locals := 0 }
def fX4_add (S : GS) (a1 : Int32) (a2 : Int32) (a3 : Int32) (a4 : Int32) (a5 : Int32) (a6 : Int32) : Option (Int32 × GS) := (if (S.1 14 0) < (120 : Int32) then (if gib (S.1 14 0) 120 = true then glet (gsi S 15 (((S.1 14 0)).toNatClampNeg) a1) fun S3 => (if gib (S3.1 14 0) 120 = true then glet (gsi S3 16 (((S3.1 14 0)).toNatClampNeg) a2) fun S5 => (if gib (S5.1 14 0) 120 = true then glet (gsi S5 17 (((S5.1 14 0)).toNatClampNeg) a3) fun S7 => (if gib (S7.1 14 0) 120 = true then glet (gsi S7 18 (((S7.1 14 0)).toNatClampNeg) a4) fun S9 => (if gib (S9.1 14 0) 120 = true then glet (gsi S9 19 (((S9.1 14 0)).toNatClampNeg) a5) fun S11 => (if gib (S11.1 14 0) 120 = true then glet (gsi S11 20 (((S11.1 14 0)).toNatClampNeg) a6) fun S13 => glet (gsi S13 14 0 ((S13.1 14 0) + (1 : Int32))) fun S14 => (some (((S14.1 14 0) - (1 : Int32)), S14)) else none) else none) else none) else none) else none) else none) else (some ((-1 : Int32), S)))
set_option maxRecDepth 100000 in
set_option maxHeartbeats 4000000 in
theorem wX4_add_0 {p : Program} {l : Launch} {e : Env} {s : State} {m : MethodId} {args : Array Value} {below : List Frame} {meth : Method} {c : Code} {E : GE} {res : (Int32 × GS)} (hc : GM E p s m args meth c RX4 cX4_add 7 (some .int)) : ∀ (S : GS) (a1 : Int32) (a2 : Int32) (a3 : Int32) (a4 : Int32) (a5 : Int32) (a6 : Int32) (H : Heap) (locs : List Loc) (ls : Array Slot), lv_has ls 7 [(0, gR E 14), (1, .int a1), (2, .int a2), (3, .int a3), (4, .int a4), (5, .int a5), (6, .int a6)] → GX E S H locs → fX4_add S a1 a2 a3 a4 a5 a6 = some res → W p l e rmX4_add s m args below meth c H locs 0 0 (gZ E below args s (some (.int res.1)) res.2) (F0 m 0 ls []) := by
  obtain ⟨hx, hb, -, -, -, hown, hts, -, -⟩ := id hc
  intro S a1 a2 a3 a4 a5 a6 H locs ls hl hG h
  unfold fX4_add at h
  refine lv_aload_n hx hb dX4_add_0 rfl (lv_at hl 0 rfl) ?_
  refine g_getI hc hG 14 flX4_30 rfl rfl dX4_add_1 ?_
  refine lv_bipush (v := (120 : Int32)) hx hb dX4_add_4 (by decide) ?_
  refine lv_icmp_lt (tgt := 11) hx hb dX4_add_6 (by decide) (fun c1 => ?_) (fun c1 => ?_)
  · have h := g_pos c1 h
    refine lv_aload_n hx hb dX4_add_11 rfl (lv_at hl 0 rfl) ?_
    refine g_getR hc hG 14 15 flX4_9 rfl rfl rfl dX4_add_12 ?_
    refine lv_aload_n hx hb dX4_add_15 rfl (lv_at hl 0 rfl) ?_
    refine g_getI hc hG 14 flX4_30 rfl rfl dX4_add_16 ?_
    refine lv_iload_n hx hb dX4_add_19 rfl (lv_at hl 1 rfl) ?_
    obtain ⟨hi2, h⟩ := g_if h
    refine g_iast hc hG 15 120 (((S.1 14 0)).toNatClampNeg) rfl rfl hi2 rfl dX4_add_20 (fun S3 H locs eS3 hG => ?_)
    have h := g_let eS3 h
    refine lv_aload_n hx hb dX4_add_21 rfl (lv_at hl 0 rfl) ?_
    refine g_getR hc hG 14 16 flX4_15 rfl rfl rfl dX4_add_22 ?_
    refine lv_aload_n hx hb dX4_add_25 rfl (lv_at hl 0 rfl) ?_
    refine g_getI hc hG 14 flX4_30 rfl rfl dX4_add_26 ?_
    refine lv_iload_n hx hb dX4_add_29 rfl (lv_at hl 2 rfl) ?_
    obtain ⟨hi4, h⟩ := g_if h
    refine g_iast hc hG 16 120 (((S3.1 14 0)).toNatClampNeg) rfl rfl hi4 rfl dX4_add_30 (fun S5 H locs eS5 hG => ?_)
    have h := g_let eS5 h
    refine lv_aload_n hx hb dX4_add_31 rfl (lv_at hl 0 rfl) ?_
    refine g_getR hc hG 14 17 flX4_18 rfl rfl rfl dX4_add_32 ?_
    refine lv_aload_n hx hb dX4_add_35 rfl (lv_at hl 0 rfl) ?_
    refine g_getI hc hG 14 flX4_30 rfl rfl dX4_add_36 ?_
    refine lv_iload_n hx hb dX4_add_39 rfl (lv_at hl 3 rfl) ?_
    obtain ⟨hi6, h⟩ := g_if h
    refine g_iast hc hG 17 120 (((S5.1 14 0)).toNatClampNeg) rfl rfl hi6 rfl dX4_add_40 (fun S7 H locs eS7 hG => ?_)
    have h := g_let eS7 h
    refine lv_aload_n hx hb dX4_add_41 rfl (lv_at hl 0 rfl) ?_
    refine g_getR hc hG 14 18 flX4_21 rfl rfl rfl dX4_add_42 ?_
    refine lv_aload_n hx hb dX4_add_45 rfl (lv_at hl 0 rfl) ?_
    refine g_getI hc hG 14 flX4_30 rfl rfl dX4_add_46 ?_
    refine lv_iload hx hb dX4_add_49 (lv_at hl 4 rfl) ?_
    obtain ⟨hi8, h⟩ := g_if h
    refine g_iast hc hG 18 120 (((S7.1 14 0)).toNatClampNeg) rfl rfl hi8 rfl dX4_add_51 (fun S9 H locs eS9 hG => ?_)
    have h := g_let eS9 h
    refine lv_aload_n hx hb dX4_add_52 rfl (lv_at hl 0 rfl) ?_
    refine g_getR hc hG 14 19 flX4_24 rfl rfl rfl dX4_add_53 ?_
    refine lv_aload_n hx hb dX4_add_56 rfl (lv_at hl 0 rfl) ?_
    refine g_getI hc hG 14 flX4_30 rfl rfl dX4_add_57 ?_
    refine lv_iload hx hb dX4_add_60 (lv_at hl 5 rfl) ?_
    obtain ⟨hi10, h⟩ := g_if h
    refine g_iast hc hG 19 120 (((S9.1 14 0)).toNatClampNeg) rfl rfl hi10 rfl dX4_add_62 (fun S11 H locs eS11 hG => ?_)
    have h := g_let eS11 h
    refine lv_aload_n hx hb dX4_add_63 rfl (lv_at hl 0 rfl) ?_
    refine g_getR hc hG 14 20 flX4_27 rfl rfl rfl dX4_add_64 ?_
    refine lv_aload_n hx hb dX4_add_67 rfl (lv_at hl 0 rfl) ?_
    refine g_getI hc hG 14 flX4_30 rfl rfl dX4_add_68 ?_
    refine lv_iload hx hb dX4_add_71 (lv_at hl 6 rfl) ?_
    obtain ⟨hi12, h⟩ := g_if h
    refine g_iast hc hG 20 120 (((S11.1 14 0)).toNatClampNeg) rfl rfl hi12 rfl dX4_add_73 (fun S13 H locs eS13 hG => ?_)
    have h := g_let eS13 h
    refine lv_aload_n hx hb dX4_add_74 rfl (lv_at hl 0 rfl) ?_
    refine lv_dup hx hb dX4_add_75 rfl ?_
    refine g_getI hc hG 14 flX4_30 rfl rfl dX4_add_76 ?_
    refine lv_iconst (v := (1 : Int32)) hx hb dX4_add_79 (by decide) ?_
    refine lv_iadd hx hb dX4_add_80 ?_
    refine g_putI hc hG 14 fpX4_30 rfl rfl rfl rfl dX4_add_81 (fun S14 H locs eS14 hG => ?_)
    have h := g_let eS14 h
    refine lv_aload_n hx hb dX4_add_84 rfl (lv_at hl 0 rfl) ?_
    refine g_getI hc hG 14 flX4_30 rfl rfl dX4_add_85 ?_
    refine lv_iconst (v := (1 : Int32)) hx hb dX4_add_88 (by decide) ?_
    refine lv_isub hx hb dX4_add_89 ?_
    exact g_iret hc hG dX4_add_90 h
  · have h := g_neg c1 h
    refine lv_iconst (v := (-1 : Int32)) hx hb dX4_add_9 (by decide) ?_
    exact g_iret hc hG dX4_add_10 h
theorem mX4_add (l : Launch) (E : GE) {S : GS} {a1 : Int32} {a2 : Int32} {a3 : Int32} {a4 : Int32} {a5 : Int32} {a6 : Int32} {res : (Int32 × GS)} (h : fX4_add S a1 a2 a3 a4 a5 a6 = some res) : gMet l E yX4_add cX4_add 7 (some .int) rmX4_add [gR E 14, .int a1, .int a2, .int a3, .int a4, .int a5, .int a6] S (some (.int res.1)) res.2 :=
  g_met (by decide) (Nat.le_of_ble_eq_true rfl) rfl fun p e s m below meth c H ls hc hG hl => wX4_add_0 hc S a1 a2 a3 a4 a5 a6 H [] ls hl hG h
abbrev rmX5_turnOpposed : Room := { frames := 0, cells := 0, slots := 0, locals := 0 }
def fX5_turnOpposed (S : GS) (a1 : Int32) (a2 : Int32) : Option (Unit × GS) := (if gib a1 12 = true then glet (gsi S 6 (a1.toNatClampNeg) ((S.1 6 a1.toNatClampNeg) ^^^ ((1 : Int32) <<< (a2 &&& 31)))) fun S2 => (if gib a2 12 = true then glet (gsi S2 6 (a2.toNatClampNeg) ((S2.1 6 a2.toNatClampNeg) ^^^ ((1 : Int32) <<< (a1 &&& 31)))) fun S4 => (some ((), S4)) else none) else none)
set_option maxRecDepth 100000 in
set_option maxHeartbeats 4000000 in
theorem wX5_turnOpposed_0 {p : Program} {l : Launch} {e : Env} {s : State} {m : MethodId} {args : Array Value} {below : List Frame} {meth : Method} {c : Code} {E : GE} {res : (Unit × GS)} (hc : GM E p s m args meth c RX5 cX5_turnOpposed 3 none) : ∀ (S : GS) (a1 : Int32) (a2 : Int32) (H : Heap) (locs : List Loc) (ls : Array Slot), lv_has ls 3 [(0, gR E 5), (1, .int a1), (2, .int a2)] → GX E S H locs → fX5_turnOpposed S a1 a2 = some res → W p l e rmX5_turnOpposed s m args below meth c H locs 0 0 (gZ E below args s none res.2) (F0 m 0 ls []) := by
  obtain ⟨hx, hb, -, -, -, hown, hts, -, -⟩ := id hc
  intro S a1 a2 H locs ls hl hG h
  unfold fX5_turnOpposed at h
  refine lv_aload_n hx hb dX5_turnOpposed_0 rfl (lv_at hl 0 rfl) ?_
  refine g_getR hc hG 5 6 flX5_9 rfl rfl rfl dX5_turnOpposed_1 ?_
  refine lv_iload_n hx hb dX5_turnOpposed_4 rfl (lv_at hl 1 rfl) ?_
  refine lv_dup2_11 hx hb dX5_turnOpposed_5 rfl rfl ?_
  obtain ⟨hi1, h⟩ := g_if h
  refine g_iald hc hG 6 12 (a1.toNatClampNeg) rfl rfl hi1 rfl dX5_turnOpposed_6 ?_
  refine lv_iconst (v := (1 : Int32)) hx hb dX5_turnOpposed_7 (by decide) ?_
  refine lv_iload_n hx hb dX5_turnOpposed_8 rfl (lv_at hl 2 rfl) ?_
  refine lv_ishl hx hb dX5_turnOpposed_9 ?_
  refine lv_ixor hx hb dX5_turnOpposed_10 ?_
  refine g_iast hc hG 6 12 (a1.toNatClampNeg) rfl rfl hi1 rfl dX5_turnOpposed_11 (fun S2 H locs eS2 hG => ?_)
  have h := g_let eS2 h
  refine lv_aload_n hx hb dX5_turnOpposed_12 rfl (lv_at hl 0 rfl) ?_
  refine g_getR hc hG 5 6 flX5_9 rfl rfl rfl dX5_turnOpposed_13 ?_
  refine lv_iload_n hx hb dX5_turnOpposed_16 rfl (lv_at hl 2 rfl) ?_
  refine lv_dup2_11 hx hb dX5_turnOpposed_17 rfl rfl ?_
  obtain ⟨hi3, h⟩ := g_if h
  refine g_iald hc hG 6 12 (a2.toNatClampNeg) rfl rfl hi3 rfl dX5_turnOpposed_18 ?_
  refine lv_iconst (v := (1 : Int32)) hx hb dX5_turnOpposed_19 (by decide) ?_
  refine lv_iload_n hx hb dX5_turnOpposed_20 rfl (lv_at hl 1 rfl) ?_
  refine lv_ishl hx hb dX5_turnOpposed_21 ?_
  refine lv_ixor hx hb dX5_turnOpposed_22 ?_
  refine g_iast hc hG 6 12 (a2.toNatClampNeg) rfl rfl hi3 rfl dX5_turnOpposed_23 (fun S4 H locs eS4 hG => ?_)
  have h := g_let eS4 h
  exact g_vret hc hG dX5_turnOpposed_24 h
theorem mX5_turnOpposed (l : Launch) (E : GE) {S : GS} {a1 : Int32} {a2 : Int32} {res : (Unit × GS)} (h : fX5_turnOpposed S a1 a2 = some res) : gMet l E yX5_turnOpposed cX5_turnOpposed 3 none rmX5_turnOpposed [gR E 5, .int a1, .int a2] S none res.2 :=
  g_met (by decide) (Nat.le_of_ble_eq_true rfl) rfl fun p e s m below meth c H ls hc hG hl => wX5_turnOpposed_0 hc S a1 a2 H [] ls hl hG h

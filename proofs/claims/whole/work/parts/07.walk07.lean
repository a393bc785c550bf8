abbrev rmX11_isHeld : Room := { frames := 2, cells := 0, slots := 0, locals := 47 }
def fX11_isHeld (S : GS) (a1 : Int32) (a2 : Int32) (a3 : Int32) : Option Int32 := gbv (fX11_votes S a1 a2 a3) fun r2 => (if gib a1 32 = true then (if ((2 : Int32) * r2) ≤ (S.1 68 a1.toNatClampNeg) then (some (0 : Int32)) else (some (1 : Int32))) else none)
set_option maxRecDepth 100000 in
set_option maxHeartbeats 4000000 in
theorem wX11_isHeld_0 {p : Program} {l : Launch} {e : Env} {s : State} {m : MethodId} {args : Array Value} {below : List Frame} {meth : Method} {c : Code} {E : GE} {res : Int32} (hc : GM E p s m args meth c RX11 cX11_isHeld 4 (some .boolean)) : ∀ (S : GS) (a1 : Int32) (a2 : Int32) (a3 : Int32) (H : Heap) (locs : List Loc) (ls : Array Slot), lv_has ls 4 [(0, gR E 54), (1, .int a1), (2, .int a2), (3, .int a3)] → GX E S H locs → fX11_isHeld S a1 a2 a3 = some res → W p l e rmX11_isHeld s m args below meth c H locs 0 0 (gZ E below args s (some (.int res)) S) (F0 m 0 ls []) := by
  obtain ⟨hx, hb, -, -, -, hown, hts, -, -⟩ := id hc
  intro S a1 a2 a3 H locs ls hl hG h
  unfold fX11_isHeld at h
  refine lv_iconst (v := (2 : Int32)) hx hb dX11_isHeld_0 (by decide) ?_
  refine lv_aload_n hx hb dX11_isHeld_1 rfl (lv_at hl 0 rfl) ?_
  refine lv_iload_n hx hb dX11_isHeld_2 rfl (lv_at hl 1 rfl) ?_
  refine lv_iload_n hx hb dX11_isHeld_3 rfl (lv_at hl 2 rfl) ?_
  refine lv_iload_n hx hb dX11_isHeld_4 rfl (lv_at hl 3 rfl) ?_
  obtain ⟨r2, hm1, h⟩ := g_bv h
  refine g_callVi (As := [.int a1, .int a2, .int a3]) hc hG (mX11_votes l E hm1) mlX11_318 mcX11_votes miX11_votes rfl rfl rfl rfl hl.1 rfl rfl ⟨by decide, by decide⟩ (Nat.le_of_ble_eq_true rfl) ⟨by decide, by decide⟩ dX11_isHeld_5 rfl (fun H locs hG => ?_)
  refine lv_imul hx hb dX11_isHeld_8 ?_
  refine lv_aload_n hx hb dX11_isHeld_9 rfl (lv_at hl 0 rfl) ?_
  refine g_getR hc hG 54 68 flX11_58 rfl rfl rfl dX11_isHeld_10 ?_
  refine lv_iload_n hx hb dX11_isHeld_13 rfl (lv_at hl 1 rfl) ?_
  obtain ⟨hi3, h⟩ := g_if h
  refine g_iald hc hG 68 32 (a1.toNatClampNeg) rfl rfl hi3 rfl dX11_isHeld_14 ?_
  refine lv_icmp_le (tgt := 22) hx hb dX11_isHeld_15 (by decide) (fun c4 => ?_) (fun c4 => ?_)
  · have h := g_pos c4 h
    refine lv_iconst (v := (0 : Int32)) hx hb dX11_isHeld_22 (by decide) ?_
    exact g_zretp hc hG (Or.inl rfl) dX11_isHeld_23 h
  · have h := g_neg c4 h
    refine lv_iconst (v := (1 : Int32)) hx hb dX11_isHeld_18 (by decide) ?_
    refine lv_goto (tgt := 23) hx hb dX11_isHeld_19 (by decide) ?_
    exact g_zretp hc hG (Or.inr rfl) dX11_isHeld_23 h
theorem mX11_isHeld (l : Launch) (E : GE) {S : GS} {a1 : Int32} {a2 : Int32} {a3 : Int32} {res : Int32} (h : fX11_isHeld S a1 a2 a3 = some res) : gMet l E yX11_isHeld cX11_isHeld 4 (some .boolean) rmX11_isHeld [gR E 54, .int a1, .int a2, .int a3] S (some (.int res)) S :=
  g_met (by decide) (Nat.le_of_ble_eq_true rfl) rfl fun p e s m below meth c H ls hc hG hl => wX11_isHeld_0 hc S a1 a2 a3 H [] ls hl hG h
abbrev rmX11_isLaid : Room := { frames := 0, cells := 0, slots := 0, locals := 0 }
def fX11_isLaid_98 (k5 : GS → Int32 → Int32 → Int32 → Int32 → Option Int32) (S : GS) (a1 : Int32) (a2 : Int32) (a4 : Int32) : Option Int32 := glet (a4 + (1 : Int32)) fun v1 => (k5 S a1 a2 a4 v1)
set_option maxRecDepth 100000 in
set_option maxHeartbeats 4000000 in
theorem wX11_isLaid_98 {p : Program} {l : Launch} {e : Env} {s : State} {m : MethodId} {args : Array Value} {below : List Frame} {meth : Method} {c : Code} {E : GE} {res : Int32} {k5 : GS → Int32 → Int32 → Int32 → Int32 → Option Int32} (hc : GM E p s m args meth c RX11 cX11_isLaid 5 (some .boolean)) (hk5 : ∀ (S : GS) (a1 : Int32) (a2 : Int32) (a3 : Int32) (a4 : Int32) (H : Heap) (locs : List Loc) (ls : Array Slot), lv_has ls 5 [(0, gR E 54), (1, .int a1), (2, .int a2), (3, .int a3), (4, .int a4)] → GX E S H locs → k5 S a1 a2 a3 a4 = some res → W p l e rmX11_isLaid s m args below meth c H locs 0 0 (gZ E below args s (some (.int res)) S) (F0 m 5 ls [])) : ∀ (S : GS) (a1 : Int32) (a2 : Int32) (a4 : Int32) (H : Heap) (locs : List Loc) (ls : Array Slot), lv_has ls 5 [(0, gR E 54), (1, .int a1), (2, .int a2), (4, .int a4)] → GX E S H locs → fX11_isLaid_98 k5 S a1 a2 a4 = some res → W p l e rmX11_isLaid s m args below meth c H locs 0 0 (gZ E below args s (some (.int res)) S) (F0 m 98 ls []) := by
  obtain ⟨hx, hb, -, -, -, hown, hts, -, -⟩ := id hc
  intro S a1 a2 a4 H locs ls hl hG h
  unfold fX11_isLaid_98 at h
  refine lv_iload hx hb dX11_isLaid_98 (lv_at hl 3 rfl) ?_
  refine lv_istore_n (lv' := [(3, .int a4), (0, gR E 54), (1, .int a1), (2, .int a2), (4, .int a4)]) hx hb dX11_isLaid_100 rfl hl (by decide) rfl (fun ls hl => ?_)
  obtain ⟨v1, ev1⟩ : ∃ y : Int32, y = (a4 + (1 : Int32)) := ⟨_, rfl⟩
  have h := g_let ev1 h
  refine lv_iinc (v := v1) (lv' := [(4, .int v1), (3, .int a4), (0, gR E 54), (1, .int a1), (2, .int a2)]) hx hb dX11_isLaid_101 hl (k := 4) rfl (by rw [ev1]; rfl) (by decide) rfl (fun ls hl => ?_)
  refine lv_goto (tgt := 5) hx hb dX11_isLaid_104 (by decide) ?_
  exact hk5 S a1 a2 a4 v1 _ _ _ (lv_sub hl [2, 3, 4, 1, 0] rfl) hG h
def fX11_isLaid_47 (k5 : GS → Int32 → Int32 → Int32 → Int32 → Option Int32) (S : GS) (a1 : Int32) (a2 : Int32) (a3 : Int32) (a4 : Int32) : Option Int32 := (if gib a4 120 = true then (if gib (S.1 75 a4.toNatClampNeg) 12 = true then (if (S.1 79 ((S.1 75 a4.toNatClampNeg)).toNatClampNeg) = a1 then (if (S.1 74 a4.toNatClampNeg) ≤ a2 then (if a3 = (-1 : Int32) then (fX11_isLaid_98 k5 S a1 a2 a4) else (if gib a3 120 = true then (if (S.1 74 a4.toNatClampNeg) < (S.1 74 a3.toNatClampNeg) then glet (a4 + (1 : Int32)) fun v9 => (k5 S a1 a2 a3 v9) else (fX11_isLaid_98 k5 S a1 a2 a4)) else none)) else glet (a4 + (1 : Int32)) fun v10 => (k5 S a1 a2 a3 v10)) else glet (a4 + (1 : Int32)) fun v4 => (k5 S a1 a2 a3 v4)) else none) else none)
set_option maxRecDepth 100000 in
set_option maxHeartbeats 4000000 in
theorem wX11_isLaid_47 {p : Program} {l : Launch} {e : Env} {s : State} {m : MethodId} {args : Array Value} {below : List Frame} {meth : Method} {c : Code} {E : GE} {res : Int32} {k5 : GS → Int32 → Int32 → Int32 → Int32 → Option Int32} (hc : GM E p s m args meth c RX11 cX11_isLaid 5 (some .boolean)) (hk5 : ∀ (S : GS) (a1 : Int32) (a2 : Int32) (a3 : Int32) (a4 : Int32) (H : Heap) (locs : List Loc) (ls : Array Slot), lv_has ls 5 [(0, gR E 54), (1, .int a1), (2, .int a2), (3, .int a3), (4, .int a4)] → GX E S H locs → k5 S a1 a2 a3 a4 = some res → W p l e rmX11_isLaid s m args below meth c H locs 0 0 (gZ E below args s (some (.int res)) S) (F0 m 5 ls [])) : ∀ (S : GS) (a1 : Int32) (a2 : Int32) (a3 : Int32) (a4 : Int32) (H : Heap) (locs : List Loc) (ls : Array Slot), lv_has ls 5 [(0, gR E 54), (1, .int a1), (2, .int a2), (3, .int a3), (4, .int a4)] → GX E S H locs → fX11_isLaid_47 k5 S a1 a2 a3 a4 = some res → W p l e rmX11_isLaid s m args below meth c H locs 0 0 (gZ E below args s (some (.int res)) S) (F0 m 47 ls []) := by
  obtain ⟨hx, hb, -, -, -, hown, hts, -, -⟩ := id hc
  intro S a1 a2 a3 a4 H locs ls hl hG h
  unfold fX11_isLaid_47 at h
  refine lv_aload_n hx hb dX11_isLaid_47 rfl (lv_at hl 0 rfl) ?_
  refine g_getR hc hG 54 79 flX11_91 rfl rfl rfl dX11_isLaid_48 ?_
  refine lv_aload_n hx hb dX11_isLaid_51 rfl (lv_at hl 0 rfl) ?_
  refine g_getR hc hG 54 75 flX11_79 rfl rfl rfl dX11_isLaid_52 ?_
  refine lv_iload hx hb dX11_isLaid_55 (lv_at hl 4 rfl) ?_
  obtain ⟨hi1, h⟩ := g_if h
  refine g_iald hc hG 75 120 (a4.toNatClampNeg) rfl rfl hi1 rfl dX11_isLaid_57 ?_
  obtain ⟨hi2, h⟩ := g_if h
  refine g_iald hc hG 79 12 (((S.1 75 a4.toNatClampNeg)).toNatClampNeg) rfl rfl hi2 rfl dX11_isLaid_58 ?_
  refine lv_iload_n hx hb dX11_isLaid_59 rfl (lv_at hl 1 rfl) ?_
  refine lv_icmp_ne (tgt := 101) hx hb dX11_isLaid_60 (by decide) (fun c3 => ?_) (fun c3 => ?_)
  · have h := g_neg c3 h
    obtain ⟨v4, ev4⟩ : ∃ y : Int32, y = (a4 + (1 : Int32)) := ⟨_, rfl⟩
    have h := g_let ev4 h
    refine lv_iinc (v := v4) (lv' := [(4, .int v4), (0, gR E 54), (1, .int a1), (2, .int a2), (3, .int a3)]) hx hb dX11_isLaid_101 hl (k := 4) rfl (by rw [ev4]; rfl) (by decide) rfl (fun ls hl => ?_)
    refine lv_goto (tgt := 5) hx hb dX11_isLaid_104 (by decide) ?_
    exact hk5 S a1 a2 a3 v4 _ _ _ (lv_sub hl [1, 2, 3, 4, 0] rfl) hG h
  · have h := g_pos c3 h
    refine lv_aload_n hx hb dX11_isLaid_63 rfl (lv_at hl 0 rfl) ?_
    refine g_getR hc hG 54 74 flX11_76 rfl rfl rfl dX11_isLaid_64 ?_
    refine lv_iload hx hb dX11_isLaid_67 (lv_at hl 4 rfl) ?_
    refine g_iald hc hG 74 120 (a4.toNatClampNeg) rfl rfl hi1 rfl dX11_isLaid_69 ?_
    refine lv_iload_n hx hb dX11_isLaid_70 rfl (lv_at hl 2 rfl) ?_
    refine lv_icmp_le (tgt := 77) hx hb dX11_isLaid_71 (by decide) (fun c5 => ?_) (fun c5 => ?_)
    · have h := g_pos c5 h
      refine lv_iload_n hx hb dX11_isLaid_77 rfl (lv_at hl 3 rfl) ?_
      refine lv_iconst (v := (-1 : Int32)) hx hb dX11_isLaid_78 (by decide) ?_
      refine lv_icmp_eq (tgt := 98) hx hb dX11_isLaid_79 (by decide) (fun c6 => ?_) (fun c6 => ?_)
      · have h := g_pos c6 h
        exact wX11_isLaid_98 hc hk5 S a1 a2 a4 _ _ _ (lv_sub hl [0, 1, 2, 4] rfl) hG h
      · have h := g_neg c6 h
        refine lv_aload_n hx hb dX11_isLaid_82 rfl (lv_at hl 0 rfl) ?_
        refine g_getR hc hG 54 74 flX11_76 rfl rfl rfl dX11_isLaid_83 ?_
        refine lv_iload hx hb dX11_isLaid_86 (lv_at hl 4 rfl) ?_
        refine g_iald hc hG 74 120 (a4.toNatClampNeg) rfl rfl hi1 rfl dX11_isLaid_88 ?_
        refine lv_aload_n hx hb dX11_isLaid_89 rfl (lv_at hl 0 rfl) ?_
        refine g_getR hc hG 54 74 flX11_76 rfl rfl rfl dX11_isLaid_90 ?_
        refine lv_iload_n hx hb dX11_isLaid_93 rfl (lv_at hl 3 rfl) ?_
        obtain ⟨hi7, h⟩ := g_if h
        refine g_iald hc hG 74 120 (a3.toNatClampNeg) rfl rfl hi7 rfl dX11_isLaid_94 ?_
        refine lv_icmp_lt (tgt := 101) hx hb dX11_isLaid_95 (by decide) (fun c8 => ?_) (fun c8 => ?_)
        · have h := g_pos c8 h
          obtain ⟨v9, ev9⟩ : ∃ y : Int32, y = (a4 + (1 : Int32)) := ⟨_, rfl⟩
          have h := g_let ev9 h
          refine lv_iinc (v := v9) (lv' := [(4, .int v9), (0, gR E 54), (1, .int a1), (2, .int a2), (3, .int a3)]) hx hb dX11_isLaid_101 hl (k := 4) rfl (by rw [ev9]; rfl) (by decide) rfl (fun ls hl => ?_)
          refine lv_goto (tgt := 5) hx hb dX11_isLaid_104 (by decide) ?_
          exact hk5 S a1 a2 a3 v9 _ _ _ (lv_sub hl [1, 2, 3, 4, 0] rfl) hG h
        · have h := g_neg c8 h
          exact wX11_isLaid_98 hc hk5 S a1 a2 a4 _ _ _ (lv_sub hl [0, 1, 2, 4] rfl) hG h
    · have h := g_neg c5 h
      refine lv_goto (tgt := 101) hx hb dX11_isLaid_74 (by decide) ?_
      obtain ⟨v10, ev10⟩ : ∃ y : Int32, y = (a4 + (1 : Int32)) := ⟨_, rfl⟩
      have h := g_let ev10 h
      refine lv_iinc (v := v10) (lv' := [(4, .int v10), (0, gR E 54), (1, .int a1), (2, .int a2), (3, .int a3)]) hx hb dX11_isLaid_101 hl (k := 4) rfl (by rw [ev10]; rfl) (by decide) rfl (fun ls hl => ?_)
      refine lv_goto (tgt := 5) hx hb dX11_isLaid_104 (by decide) ?_
      exact hk5 S a1 a2 a3 v10 _ _ _ (lv_sub hl [1, 2, 3, 4, 0] rfl) hG h
def fX11_isLaid_5 : Nat → GS → Int32 → Int32 → Int32 → Int32 → Option Int32
  | 0, _, _, _, _, _ => none
  | n + 1, S, a1, a2, a3, a4 => (if (S.1 54 41) ≤ a4 then (if a3 = (-1 : Int32) then (some (0 : Int32)) else (if gib a3 120 = true then (if (S.1 71 a3.toNatClampNeg) = (6 : Int32) then (some (1 : Int32)) else (some (0 : Int32))) else none)) else (if gib a4 120 = true then (if (S.1 78 a4.toNatClampNeg) = 0 then glet (a4 + (1 : Int32)) fun v7 => (fX11_isLaid_5 n S a1 a2 a3 v7) else (if (S.1 71 a4.toNatClampNeg) = (5 : Int32) then (fX11_isLaid_47 (fX11_isLaid_5 n) S a1 a2 a3 a4) else (if (S.1 71 a4.toNatClampNeg) = (6 : Int32) then (fX11_isLaid_47 (fX11_isLaid_5 n) S a1 a2 a3 a4) else glet (a4 + (1 : Int32)) fun v10 => (fX11_isLaid_5 n S a1 a2 a3 v10)))) else none))
set_option maxRecDepth 100000 in
set_option maxHeartbeats 4000000 in
theorem wX11_isLaid_5 {p : Program} {l : Launch} {e : Env} {s : State} {m : MethodId} {args : Array Value} {below : List Frame} {meth : Method} {c : Code} {E : GE} {res : Int32} (hc : GM E p s m args meth c RX11 cX11_isLaid 5 (some .boolean)) : ∀ (n : Nat), ∀ (S : GS) (a1 : Int32) (a2 : Int32) (a3 : Int32) (a4 : Int32) (H : Heap) (locs : List Loc) (ls : Array Slot), lv_has ls 5 [(0, gR E 54), (1, .int a1), (2, .int a2), (3, .int a3), (4, .int a4)] → GX E S H locs → fX11_isLaid_5 n S a1 a2 a3 a4 = some res → W p l e rmX11_isLaid s m args below meth c H locs 0 0 (gZ E below args s (some (.int res)) S) (F0 m 5 ls []) := by
  obtain ⟨hx, hb, -, -, -, hown, hts, -, -⟩ := id hc
  intro n
  induction n with
  | zero => intro S a1 a2 a3 a4 H locs ls hl hG h; cases h
  | succ n ih =>
    intro S a1 a2 a3 a4 H locs ls hl hG h
    rw [fX11_isLaid_5] at h
    refine lv_iload hx hb dX11_isLaid_5 (lv_at hl 4 rfl) ?_
    refine lv_aload_n hx hb dX11_isLaid_7 rfl (lv_at hl 0 rfl) ?_
    refine g_getI hc hG 54 flX11_282 rfl rfl dX11_isLaid_8 ?_
    refine lv_icmp_ge (tgt := 107) hx hb dX11_isLaid_11 (by decide) (fun c1 => ?_) (fun c1 => ?_)
    · have h := g_pos c1 h
      refine lv_iload_n hx hb dX11_isLaid_107 rfl (lv_at hl 3 rfl) ?_
      refine lv_iconst (v := (-1 : Int32)) hx hb dX11_isLaid_108 (by decide) ?_
      refine lv_icmp_eq (tgt := 127) hx hb dX11_isLaid_109 (by decide) (fun c2 => ?_) (fun c2 => ?_)
      · have h := g_pos c2 h
        refine lv_iconst (v := (0 : Int32)) hx hb dX11_isLaid_127 (by decide) ?_
        exact g_zretp hc hG (Or.inl rfl) dX11_isLaid_128 h
      · have h := g_neg c2 h
        refine lv_aload_n hx hb dX11_isLaid_112 rfl (lv_at hl 0 rfl) ?_
        refine g_getR hc hG 54 71 flX11_67 rfl rfl rfl dX11_isLaid_113 ?_
        refine lv_iload_n hx hb dX11_isLaid_116 rfl (lv_at hl 3 rfl) ?_
        obtain ⟨hi3, h⟩ := g_if h
        refine g_iald hc hG 71 120 (a3.toNatClampNeg) rfl rfl hi3 rfl dX11_isLaid_117 ?_
        refine lv_bipush (v := (6 : Int32)) hx hb dX11_isLaid_118 (by decide) ?_
        refine lv_icmp_ne (tgt := 127) hx hb dX11_isLaid_120 (by decide) (fun c4 => ?_) (fun c4 => ?_)
        · have h := g_neg c4 h
          refine lv_iconst (v := (0 : Int32)) hx hb dX11_isLaid_127 (by decide) ?_
          exact g_zretp hc hG (Or.inl rfl) dX11_isLaid_128 h
        · have h := g_pos c4 h
          refine lv_iconst (v := (1 : Int32)) hx hb dX11_isLaid_123 (by decide) ?_
          refine lv_goto (tgt := 128) hx hb dX11_isLaid_124 (by decide) ?_
          exact g_zretp hc hG (Or.inr rfl) dX11_isLaid_128 h
    · have h := g_neg c1 h
      refine lv_aload_n hx hb dX11_isLaid_14 rfl (lv_at hl 0 rfl) ?_
      refine g_getR hc hG 54 78 flX11_88 rfl rfl rfl dX11_isLaid_15 ?_
      refine lv_iload hx hb dX11_isLaid_18 (lv_at hl 4 rfl) ?_
      obtain ⟨hi5, h⟩ := g_if h
      refine g_zald hc hG 78 120 (a4.toNatClampNeg) rfl rfl hi5 rfl dX11_isLaid_20 ?_
      refine lv_if_eq (tgt := 101) hx hb dX11_isLaid_21 (by decide) (fun c6 => ?_) (fun c6 => ?_)
      · have h := g_pos c6 h
        obtain ⟨v7, ev7⟩ : ∃ y : Int32, y = (a4 + (1 : Int32)) := ⟨_, rfl⟩
        have h := g_let ev7 h
        refine lv_iinc (v := v7) (lv' := [(4, .int v7), (0, gR E 54), (1, .int a1), (2, .int a2), (3, .int a3)]) hx hb dX11_isLaid_101 hl (k := 4) rfl (by rw [ev7]; rfl) (by decide) rfl (fun ls hl => ?_)
        refine lv_goto (tgt := 5) hx hb dX11_isLaid_104 (by decide) ?_
        exact ih S a1 a2 a3 v7 _ _ _ (lv_sub hl [1, 2, 3, 4, 0] rfl) hG h
      · have h := g_neg c6 h
        refine lv_aload_n hx hb dX11_isLaid_24 rfl (lv_at hl 0 rfl) ?_
        refine g_getR hc hG 54 71 flX11_67 rfl rfl rfl dX11_isLaid_25 ?_
        refine lv_iload hx hb dX11_isLaid_28 (lv_at hl 4 rfl) ?_
        refine g_iald hc hG 71 120 (a4.toNatClampNeg) rfl rfl hi5 rfl dX11_isLaid_30 ?_
        refine lv_iconst (v := (5 : Int32)) hx hb dX11_isLaid_31 (by decide) ?_
        refine lv_icmp_eq (tgt := 47) hx hb dX11_isLaid_32 (by decide) (fun c8 => ?_) (fun c8 => ?_)
        · have h := g_pos c8 h
          exact wX11_isLaid_47 hc ih S a1 a2 a3 a4 _ _ _ (lv_sub hl [0, 1, 2, 3, 4] rfl) hG h
        · have h := g_neg c8 h
          refine lv_aload_n hx hb dX11_isLaid_35 rfl (lv_at hl 0 rfl) ?_
          refine g_getR hc hG 54 71 flX11_67 rfl rfl rfl dX11_isLaid_36 ?_
          refine lv_iload hx hb dX11_isLaid_39 (lv_at hl 4 rfl) ?_
          refine g_iald hc hG 71 120 (a4.toNatClampNeg) rfl rfl hi5 rfl dX11_isLaid_41 ?_
          refine lv_bipush (v := (6 : Int32)) hx hb dX11_isLaid_42 (by decide) ?_
          refine lv_icmp_ne (tgt := 101) hx hb dX11_isLaid_44 (by decide) (fun c9 => ?_) (fun c9 => ?_)
          · have h := g_neg c9 h
            obtain ⟨v10, ev10⟩ : ∃ y : Int32, y = (a4 + (1 : Int32)) := ⟨_, rfl⟩
            have h := g_let ev10 h
            refine lv_iinc (v := v10) (lv' := [(4, .int v10), (0, gR E 54), (1, .int a1), (2, .int a2), (3, .int a3)]) hx hb dX11_isLaid_101 hl (k := 4) rfl (by rw [ev10]; rfl) (by decide) rfl (fun ls hl => ?_)
            refine lv_goto (tgt := 5) hx hb dX11_isLaid_104 (by decide) ?_
            exact ih S a1 a2 a3 v10 _ _ _ (lv_sub hl [1, 2, 3, 4, 0] rfl) hG h
          · have h := g_pos c9 h
            exact wX11_isLaid_47 hc ih S a1 a2 a3 a4 _ _ _ (lv_sub hl [0, 1, 2, 3, 4] rfl) hG h
def fX11_isLaid (S : GS) (a1 : Int32) (a2 : Int32) : Option Int32 := glet (-1 : Int32) fun v1 => glet (0 : Int32) fun v2 => (fX11_isLaid_5 FU S a1 a2 v1 v2)
set_option maxRecDepth 100000 in
set_option maxHeartbeats 4000000 in
theorem wX11_isLaid_0 {p : Program} {l : Launch} {e : Env} {s : State} {m : MethodId} {args : Array Value} {below : List Frame} {meth : Method} {c : Code} {E : GE} {res : Int32} (hc : GM E p s m args meth c RX11 cX11_isLaid 5 (some .boolean)) : ∀ (S : GS) (a1 : Int32) (a2 : Int32) (H : Heap) (locs : List Loc) (ls : Array Slot), lv_has ls 5 [(0, gR E 54), (1, .int a1), (2, .int a2)] → GX E S H locs → fX11_isLaid S a1 a2 = some res → W p l e rmX11_isLaid s m args below meth c H locs 0 0 (gZ E below args s (some (.int res)) S) (F0 m 0 ls []) := by
  obtain ⟨hx, hb, -, -, -, hown, hts, -, -⟩ := id hc
  intro S a1 a2 H locs ls hl hG h
  unfold fX11_isLaid at h
  refine lv_iconst (v := (-1 : Int32)) hx hb dX11_isLaid_0 (by decide) ?_
  refine lv_topi (fun v1 ev1 => ?_)
  have h := g_let ev1 h
  refine lv_istore_n (lv' := [(3, .int v1), (0, gR E 54), (1, .int a1), (2, .int a2)]) hx hb dX11_isLaid_1 rfl hl (by decide) rfl (fun ls hl => ?_)
  refine lv_iconst (v := (0 : Int32)) hx hb dX11_isLaid_2 (by decide) ?_
  refine lv_topi (fun v2 ev2 => ?_)
  have h := g_let ev2 h
  refine lv_istore (lv' := [(4, .int v2), (3, .int v1), (0, gR E 54), (1, .int a1), (2, .int a2)]) hx hb dX11_isLaid_3 hl (by decide) rfl (fun ls hl => ?_)
  exact wX11_isLaid_5 hc FU S a1 a2 v1 v2 _ _ _ (lv_sub hl [2, 3, 4, 1, 0] rfl) hG h
theorem mX11_isLaid (l : Launch) (E : GE) {S : GS} {a1 : Int32} {a2 : Int32} {res : Int32} (h : fX11_isLaid S a1 a2 = some res) : gMet l E yX11_isLaid cX11_isLaid 5 (some .boolean) rmX11_isLaid [gR E 54, .int a1, .int a2] S (some (.int res)) S :=
  g_met (by decide) (Nat.le_of_ble_eq_true rfl) rfl fun p e s m below meth c H ls hc hG hl => wX11_isLaid_0 hc S a1 a2 H [] ls hl hG h
abbrev rmX11_doubts : Room := { frames := 0, cells := 0, slots := 0, locals := 0 }
def fX11_doubts_9 : Nat → GS → Int32 → Int32 → Int32 → Int32 → Int32 → Int32 → Option Int32
  | 0, _, _, _, _, _, _, _ => none
  | n + 1, S, a1, a2, a3, a4, a5, a6 => (if (S.1 54 41) ≤ a6 then (some a5) else (if gib a6 120 = true then (if (S.1 78 a6.toNatClampNeg) = 0 then glet (a6 + (1 : Int32)) fun v4 => (fX11_doubts_9 n S a1 a2 a3 a4 a5 v4) else (if (S.1 71 a6.toNatClampNeg) = (3 : Int32) then (if (S.1 74 a6.toNatClampNeg) = a1 then (if gib (S.1 75 a6.toNatClampNeg) 12 = true then (if (S.1 79 ((S.1 75 a6.toNatClampNeg)).toNatClampNeg) = a2 then (if gib (S.1 73 a6.toNatClampNeg) 32 = true then (if a3 ≤ (S.1 82 ((S.1 73 a6.toNatClampNeg)).toNatClampNeg) then glet (a6 + (1 : Int32)) fun v14 => (fX11_doubts_9 n S a1 a2 a3 a4 a5 v14) else (if (S.1 85 ((S.1 73 a6.toNatClampNeg)).toNatClampNeg) = 0 then (if ((a4 >>> ((S.1 73 a6.toNatClampNeg) &&& 31)) &&& (1 : Int32)) = (1 : Int32) then glet (a6 + (1 : Int32)) fun v21 => (fX11_doubts_9 n S a1 a2 a3 a4 a5 v21) else glet (a4 ||| ((1 : Int32) <<< ((S.1 73 a6.toNatClampNeg) &&& 31))) fun v18 => glet (a5 + (1 : Int32)) fun v19 => glet (a6 + (1 : Int32)) fun v20 => (fX11_doubts_9 n S a1 a2 a3 v18 v19 v20)) else glet (a6 + (1 : Int32)) fun v16 => (fX11_doubts_9 n S a1 a2 a3 a4 a5 v16))) else none) else glet (a6 + (1 : Int32)) fun v11 => (fX11_doubts_9 n S a1 a2 a3 a4 a5 v11)) else none) else glet (a6 + (1 : Int32)) fun v8 => (fX11_doubts_9 n S a1 a2 a3 a4 a5 v8)) else glet (a6 + (1 : Int32)) fun v6 => (fX11_doubts_9 n S a1 a2 a3 a4 a5 v6))) else none))
set_option maxRecDepth 100000 in
set_option maxHeartbeats 4000000 in
theorem wX11_doubts_9 {p : Program} {l : Launch} {e : Env} {s : State} {m : MethodId} {args : Array Value} {below : List Frame} {meth : Method} {c : Code} {E : GE} {res : Int32} (hc : GM E p s m args meth c RX11 cX11_doubts 7 (some .int)) : ∀ (n : Nat), ∀ (S : GS) (a1 : Int32) (a2 : Int32) (a3 : Int32) (a4 : Int32) (a5 : Int32) (a6 : Int32) (H : Heap) (locs : List Loc) (ls : Array Slot), lv_has ls 7 [(0, gR E 54), (1, .int a1), (2, .int a2), (3, .int a3), (4, .int a4), (5, .int a5), (6, .int a6)] → GX E S H locs → fX11_doubts_9 n S a1 a2 a3 a4 a5 a6 = some res → W p l e rmX11_doubts s m args below meth c H locs 0 0 (gZ E below args s (some (.int res)) S) (F0 m 9 ls []) := by
  obtain ⟨hx, hb, -, -, -, hown, hts, -, -⟩ := id hc
  intro n
  induction n with
  | zero => intro S a1 a2 a3 a4 a5 a6 H locs ls hl hG h; cases h
  | succ n ih =>
    intro S a1 a2 a3 a4 a5 a6 H locs ls hl hG h
    rw [fX11_doubts_9] at h
    refine lv_iload hx hb dX11_doubts_9 (lv_at hl 6 rfl) ?_
    refine lv_aload_n hx hb dX11_doubts_11 rfl (lv_at hl 0 rfl) ?_
    refine g_getI hc hG 54 flX11_282 rfl rfl dX11_doubts_12 ?_
    refine lv_icmp_ge (tgt := 139) hx hb dX11_doubts_15 (by decide) (fun c1 => ?_) (fun c1 => ?_)
    · have h := g_pos c1 h
      refine lv_iload hx hb dX11_doubts_139 (lv_at hl 5 rfl) ?_
      exact g_iretp hc hG dX11_doubts_141 h
    · have h := g_neg c1 h
      refine lv_aload_n hx hb dX11_doubts_18 rfl (lv_at hl 0 rfl) ?_
      refine g_getR hc hG 54 78 flX11_88 rfl rfl rfl dX11_doubts_19 ?_
      refine lv_iload hx hb dX11_doubts_22 (lv_at hl 6 rfl) ?_
      obtain ⟨hi2, h⟩ := g_if h
      refine g_zald hc hG 78 120 (a6.toNatClampNeg) rfl rfl hi2 rfl dX11_doubts_24 ?_
      refine lv_if_eq (tgt := 133) hx hb dX11_doubts_25 (by decide) (fun c3 => ?_) (fun c3 => ?_)
      · have h := g_pos c3 h
        obtain ⟨v4, ev4⟩ : ∃ y : Int32, y = (a6 + (1 : Int32)) := ⟨_, rfl⟩
        have h := g_let ev4 h
        refine lv_iinc (v := v4) (lv' := [(6, .int v4), (0, gR E 54), (1, .int a1), (2, .int a2), (3, .int a3), (4, .int a4), (5, .int a5)]) hx hb dX11_doubts_133 hl (k := 6) rfl (by rw [ev4]; rfl) (by decide) rfl (fun ls hl => ?_)
        refine lv_goto (tgt := 9) hx hb dX11_doubts_136 (by decide) ?_
        exact ih S a1 a2 a3 a4 a5 v4 _ _ _ (lv_sub hl [1, 2, 3, 4, 5, 6, 0] rfl) hG h
      · have h := g_neg c3 h
        refine lv_aload_n hx hb dX11_doubts_28 rfl (lv_at hl 0 rfl) ?_
        refine g_getR hc hG 54 71 flX11_67 rfl rfl rfl dX11_doubts_29 ?_
        refine lv_iload hx hb dX11_doubts_32 (lv_at hl 6 rfl) ?_
        refine g_iald hc hG 71 120 (a6.toNatClampNeg) rfl rfl hi2 rfl dX11_doubts_34 ?_
        refine lv_iconst (v := (3 : Int32)) hx hb dX11_doubts_35 (by decide) ?_
        refine lv_icmp_ne (tgt := 133) hx hb dX11_doubts_36 (by decide) (fun c5 => ?_) (fun c5 => ?_)
        · have h := g_neg c5 h
          obtain ⟨v6, ev6⟩ : ∃ y : Int32, y = (a6 + (1 : Int32)) := ⟨_, rfl⟩
          have h := g_let ev6 h
          refine lv_iinc (v := v6) (lv' := [(6, .int v6), (0, gR E 54), (1, .int a1), (2, .int a2), (3, .int a3), (4, .int a4), (5, .int a5)]) hx hb dX11_doubts_133 hl (k := 6) rfl (by rw [ev6]; rfl) (by decide) rfl (fun ls hl => ?_)
          refine lv_goto (tgt := 9) hx hb dX11_doubts_136 (by decide) ?_
          exact ih S a1 a2 a3 a4 a5 v6 _ _ _ (lv_sub hl [1, 2, 3, 4, 5, 6, 0] rfl) hG h
        · have h := g_pos c5 h
          refine lv_aload_n hx hb dX11_doubts_39 rfl (lv_at hl 0 rfl) ?_
          refine g_getR hc hG 54 74 flX11_76 rfl rfl rfl dX11_doubts_40 ?_
          refine lv_iload hx hb dX11_doubts_43 (lv_at hl 6 rfl) ?_
          refine g_iald hc hG 74 120 (a6.toNatClampNeg) rfl rfl hi2 rfl dX11_doubts_45 ?_
          refine lv_iload_n hx hb dX11_doubts_46 rfl (lv_at hl 1 rfl) ?_
          refine lv_icmp_ne (tgt := 133) hx hb dX11_doubts_47 (by decide) (fun c7 => ?_) (fun c7 => ?_)
          · have h := g_neg c7 h
            obtain ⟨v8, ev8⟩ : ∃ y : Int32, y = (a6 + (1 : Int32)) := ⟨_, rfl⟩
            have h := g_let ev8 h
            refine lv_iinc (v := v8) (lv' := [(6, .int v8), (0, gR E 54), (1, .int a1), (2, .int a2), (3, .int a3), (4, .int a4), (5, .int a5)]) hx hb dX11_doubts_133 hl (k := 6) rfl (by rw [ev8]; rfl) (by decide) rfl (fun ls hl => ?_)
            refine lv_goto (tgt := 9) hx hb dX11_doubts_136 (by decide) ?_
            exact ih S a1 a2 a3 a4 a5 v8 _ _ _ (lv_sub hl [1, 2, 3, 4, 5, 6, 0] rfl) hG h
          · have h := g_pos c7 h
            refine lv_aload_n hx hb dX11_doubts_50 rfl (lv_at hl 0 rfl) ?_
            refine g_getR hc hG 54 79 flX11_91 rfl rfl rfl dX11_doubts_51 ?_
            refine lv_aload_n hx hb dX11_doubts_54 rfl (lv_at hl 0 rfl) ?_
            refine g_getR hc hG 54 75 flX11_79 rfl rfl rfl dX11_doubts_55 ?_
            refine lv_iload hx hb dX11_doubts_58 (lv_at hl 6 rfl) ?_
            refine g_iald hc hG 75 120 (a6.toNatClampNeg) rfl rfl hi2 rfl dX11_doubts_60 ?_
            obtain ⟨hi9, h⟩ := g_if h
            refine g_iald hc hG 79 12 (((S.1 75 a6.toNatClampNeg)).toNatClampNeg) rfl rfl hi9 rfl dX11_doubts_61 ?_
            refine lv_iload_n hx hb dX11_doubts_62 rfl (lv_at hl 2 rfl) ?_
            refine lv_icmp_ne (tgt := 133) hx hb dX11_doubts_63 (by decide) (fun c10 => ?_) (fun c10 => ?_)
            · have h := g_neg c10 h
              obtain ⟨v11, ev11⟩ : ∃ y : Int32, y = (a6 + (1 : Int32)) := ⟨_, rfl⟩
              have h := g_let ev11 h
              refine lv_iinc (v := v11) (lv' := [(6, .int v11), (0, gR E 54), (1, .int a1), (2, .int a2), (3, .int a3), (4, .int a4), (5, .int a5)]) hx hb dX11_doubts_133 hl (k := 6) rfl (by rw [ev11]; rfl) (by decide) rfl (fun ls hl => ?_)
              refine lv_goto (tgt := 9) hx hb dX11_doubts_136 (by decide) ?_
              exact ih S a1 a2 a3 a4 a5 v11 _ _ _ (lv_sub hl [1, 2, 3, 4, 5, 6, 0] rfl) hG h
            · have h := g_pos c10 h
              refine lv_aload_n hx hb dX11_doubts_66 rfl (lv_at hl 0 rfl) ?_
              refine g_getR hc hG 54 82 flX11_100 rfl rfl rfl dX11_doubts_67 ?_
              refine lv_aload_n hx hb dX11_doubts_70 rfl (lv_at hl 0 rfl) ?_
              refine g_getR hc hG 54 73 flX11_73 rfl rfl rfl dX11_doubts_71 ?_
              refine lv_iload hx hb dX11_doubts_74 (lv_at hl 6 rfl) ?_
              refine g_iald hc hG 73 120 (a6.toNatClampNeg) rfl rfl hi2 rfl dX11_doubts_76 ?_
              obtain ⟨hi12, h⟩ := g_if h
              refine g_iald hc hG 82 32 (((S.1 73 a6.toNatClampNeg)).toNatClampNeg) rfl rfl hi12 rfl dX11_doubts_77 ?_
              refine lv_iload_n hx hb dX11_doubts_78 rfl (lv_at hl 3 rfl) ?_
              refine lv_icmp_ge (tgt := 133) hx hb dX11_doubts_79 (by decide) (fun c13 => ?_) (fun c13 => ?_)
              · have h := g_pos c13 h
                obtain ⟨v14, ev14⟩ : ∃ y : Int32, y = (a6 + (1 : Int32)) := ⟨_, rfl⟩
                have h := g_let ev14 h
                refine lv_iinc (v := v14) (lv' := [(6, .int v14), (0, gR E 54), (1, .int a1), (2, .int a2), (3, .int a3), (4, .int a4), (5, .int a5)]) hx hb dX11_doubts_133 hl (k := 6) rfl (by rw [ev14]; rfl) (by decide) rfl (fun ls hl => ?_)
                refine lv_goto (tgt := 9) hx hb dX11_doubts_136 (by decide) ?_
                exact ih S a1 a2 a3 a4 a5 v14 _ _ _ (lv_sub hl [1, 2, 3, 4, 5, 6, 0] rfl) hG h
              · have h := g_neg c13 h
                refine lv_aload_n hx hb dX11_doubts_82 rfl (lv_at hl 0 rfl) ?_
                refine g_getR hc hG 54 85 flX11_109 rfl rfl rfl dX11_doubts_83 ?_
                refine lv_aload_n hx hb dX11_doubts_86 rfl (lv_at hl 0 rfl) ?_
                refine g_getR hc hG 54 73 flX11_73 rfl rfl rfl dX11_doubts_87 ?_
                refine lv_iload hx hb dX11_doubts_90 (lv_at hl 6 rfl) ?_
                refine g_iald hc hG 73 120 (a6.toNatClampNeg) rfl rfl hi2 rfl dX11_doubts_92 ?_
                refine g_zald hc hG 85 32 (((S.1 73 a6.toNatClampNeg)).toNatClampNeg) rfl rfl hi12 rfl dX11_doubts_93 ?_
                refine lv_if_ne (tgt := 133) hx hb dX11_doubts_94 (by decide) (fun c15 => ?_) (fun c15 => ?_)
                · have h := g_neg c15 h
                  obtain ⟨v16, ev16⟩ : ∃ y : Int32, y = (a6 + (1 : Int32)) := ⟨_, rfl⟩
                  have h := g_let ev16 h
                  refine lv_iinc (v := v16) (lv' := [(6, .int v16), (0, gR E 54), (1, .int a1), (2, .int a2), (3, .int a3), (4, .int a4), (5, .int a5)]) hx hb dX11_doubts_133 hl (k := 6) rfl (by rw [ev16]; rfl) (by decide) rfl (fun ls hl => ?_)
                  refine lv_goto (tgt := 9) hx hb dX11_doubts_136 (by decide) ?_
                  exact ih S a1 a2 a3 a4 a5 v16 _ _ _ (lv_sub hl [1, 2, 3, 4, 5, 6, 0] rfl) hG h
                · have h := g_pos c15 h
                  refine lv_iload hx hb dX11_doubts_97 (lv_at hl 4 rfl) ?_
                  refine lv_aload_n hx hb dX11_doubts_99 rfl (lv_at hl 0 rfl) ?_
                  refine g_getR hc hG 54 73 flX11_73 rfl rfl rfl dX11_doubts_100 ?_
                  refine lv_iload hx hb dX11_doubts_103 (lv_at hl 6 rfl) ?_
                  refine g_iald hc hG 73 120 (a6.toNatClampNeg) rfl rfl hi2 rfl dX11_doubts_105 ?_
                  refine lv_ishr hx hb dX11_doubts_106 ?_
                  refine lv_iconst (v := (1 : Int32)) hx hb dX11_doubts_107 (by decide) ?_
                  refine lv_iand hx hb dX11_doubts_108 ?_
                  refine lv_iconst (v := (1 : Int32)) hx hb dX11_doubts_109 (by decide) ?_
                  refine lv_icmp_ne (tgt := 116) hx hb dX11_doubts_110 (by decide) (fun c17 => ?_) (fun c17 => ?_)
                  · have h := g_neg c17 h
                    refine lv_iload hx hb dX11_doubts_116 (lv_at hl 4 rfl) ?_
                    refine lv_iconst (v := (1 : Int32)) hx hb dX11_doubts_118 (by decide) ?_
                    refine lv_aload_n hx hb dX11_doubts_119 rfl (lv_at hl 0 rfl) ?_
                    refine g_getR hc hG 54 73 flX11_73 rfl rfl rfl dX11_doubts_120 ?_
                    refine lv_iload hx hb dX11_doubts_123 (lv_at hl 6 rfl) ?_
                    refine g_iald hc hG 73 120 (a6.toNatClampNeg) rfl rfl hi2 rfl dX11_doubts_125 ?_
                    refine lv_ishl hx hb dX11_doubts_126 ?_
                    refine lv_ior hx hb dX11_doubts_127 ?_
                    refine lv_topi (fun v18 ev18 => ?_)
                    have h := g_let ev18 h
                    refine lv_istore (lv' := [(4, .int v18), (0, gR E 54), (1, .int a1), (2, .int a2), (3, .int a3), (5, .int a5), (6, .int a6)]) hx hb dX11_doubts_128 hl (by decide) rfl (fun ls hl => ?_)
                    obtain ⟨v19, ev19⟩ : ∃ y : Int32, y = (a5 + (1 : Int32)) := ⟨_, rfl⟩
                    have h := g_let ev19 h
                    refine lv_iinc (v := v19) (lv' := [(5, .int v19), (4, .int v18), (0, gR E 54), (1, .int a1), (2, .int a2), (3, .int a3), (6, .int a6)]) hx hb dX11_doubts_130 hl (k := 5) rfl (by rw [ev19]; rfl) (by decide) rfl (fun ls hl => ?_)
                    obtain ⟨v20, ev20⟩ : ∃ y : Int32, y = (a6 + (1 : Int32)) := ⟨_, rfl⟩
                    have h := g_let ev20 h
                    refine lv_iinc (v := v20) (lv' := [(6, .int v20), (5, .int v19), (4, .int v18), (0, gR E 54), (1, .int a1), (2, .int a2), (3, .int a3)]) hx hb dX11_doubts_133 hl (k := 6) rfl (by rw [ev20]; rfl) (by decide) rfl (fun ls hl => ?_)
                    refine lv_goto (tgt := 9) hx hb dX11_doubts_136 (by decide) ?_
                    exact ih S a1 a2 a3 v18 v19 v20 _ _ _ (lv_sub hl [3, 4, 5, 6, 2, 1, 0] rfl) hG h
                  · have h := g_pos c17 h
                    refine lv_goto (tgt := 133) hx hb dX11_doubts_113 (by decide) ?_
                    obtain ⟨v21, ev21⟩ : ∃ y : Int32, y = (a6 + (1 : Int32)) := ⟨_, rfl⟩
                    have h := g_let ev21 h
                    refine lv_iinc (v := v21) (lv' := [(6, .int v21), (0, gR E 54), (1, .int a1), (2, .int a2), (3, .int a3), (4, .int a4), (5, .int a5)]) hx hb dX11_doubts_133 hl (k := 6) rfl (by rw [ev21]; rfl) (by decide) rfl (fun ls hl => ?_)
                    refine lv_goto (tgt := 9) hx hb dX11_doubts_136 (by decide) ?_
                    exact ih S a1 a2 a3 a4 a5 v21 _ _ _ (lv_sub hl [1, 2, 3, 4, 5, 6, 0] rfl) hG h
def fX11_doubts (S : GS) (a1 : Int32) (a2 : Int32) (a3 : Int32) : Option Int32 := glet (0 : Int32) fun v1 => glet (0 : Int32) fun v2 => glet (0 : Int32) fun v3 => (fX11_doubts_9 FU S a1 a2 a3 v1 v2 v3)
set_option maxRecDepth 100000 in
set_option maxHeartbeats 4000000 in
theorem wX11_doubts_0 {p : Program} {l : Launch} {e : Env} {s : State} {m : MethodId} {args : Array Value} {below : List Frame} {meth : Method} {c : Code} {E : GE} {res : Int32} (hc : GM E p s m args meth c RX11 cX11_doubts 7 (some .int)) : ∀ (S : GS) (a1 : Int32) (a2 : Int32) (a3 : Int32) (H : Heap) (locs : List Loc) (ls : Array Slot), lv_has ls 7 [(0, gR E 54), (1, .int a1), (2, .int a2), (3, .int a3)] → GX E S H locs → fX11_doubts S a1 a2 a3 = some res → W p l e rmX11_doubts s m args below meth c H locs 0 0 (gZ E below args s (some (.int res)) S) (F0 m 0 ls []) := by
  obtain ⟨hx, hb, -, -, -, hown, hts, -, -⟩ := id hc
  intro S a1 a2 a3 H locs ls hl hG h
  unfold fX11_doubts at h
  refine lv_iconst (v := (0 : Int32)) hx hb dX11_doubts_0 (by decide) ?_
  refine lv_topi (fun v1 ev1 => ?_)
  have h := g_let ev1 h
  refine lv_istore (lv' := [(4, .int v1), (0, gR E 54), (1, .int a1), (2, .int a2), (3, .int a3)]) hx hb dX11_doubts_1 hl (by decide) rfl (fun ls hl => ?_)
  refine lv_iconst (v := (0 : Int32)) hx hb dX11_doubts_3 (by decide) ?_
  refine lv_topi (fun v2 ev2 => ?_)
  have h := g_let ev2 h
  refine lv_istore (lv' := [(5, .int v2), (4, .int v1), (0, gR E 54), (1, .int a1), (2, .int a2), (3, .int a3)]) hx hb dX11_doubts_4 hl (by decide) rfl (fun ls hl => ?_)
  refine lv_iconst (v := (0 : Int32)) hx hb dX11_doubts_6 (by decide) ?_
  refine lv_topi (fun v3 ev3 => ?_)
  have h := g_let ev3 h
  refine lv_istore (lv' := [(6, .int v3), (5, .int v2), (4, .int v1), (0, gR E 54), (1, .int a1), (2, .int a2), (3, .int a3)]) hx hb dX11_doubts_7 hl (by decide) rfl (fun ls hl => ?_)
  exact wX11_doubts_9 hc FU S a1 a2 a3 v1 v2 v3 _ _ _ (lv_sub hl [3, 4, 5, 6, 2, 1, 0] rfl) hG h
theorem mX11_doubts (l : Launch) (E : GE) {S : GS} {a1 : Int32} {a2 : Int32} {a3 : Int32} {res : Int32} (h : fX11_doubts S a1 a2 a3 = some res) : gMet l E yX11_doubts cX11_doubts 7 (some .int) rmX11_doubts [gR E 54, .int a1, .int a2, .int a3] S (some (.int res)) S :=
  g_met (by decide) (Nat.le_of_ble_eq_true rfl) rfl fun p e s m below meth c H ls hc hG hl => wX11_doubts_0 hc S a1 a2 a3 H [] ls hl hG h
abbrev rmX11_name : Room := { frames := 1, cells := 0, slots := 0, locals := 20 }
def fX11_name_81 (S : GS) (t2 : Int32) (a1 : Int32) (a3 : Int32) (a4 : Int32) (a5 : Int32) : Option (Unit × GS) := gbv (fX11_is S t2) fun r2 => glet (gsl S 61 (3) r2) fun S3 => (if gib a1 32 = true then glet (gsl S3 61 (4) (((S3.1 68 a1.toNatClampNeg)).toInt64)) fun S5 => glet (gsl S5 61 (5) ((a3).toInt64)) fun S6 => glet (gsl S6 61 (6) ((a4).toInt64)) fun S7 => glet (gsl S7 61 (7) ((a5).toInt64)) fun S8 => (some ((), S8)) else none)
set_option maxRecDepth 100000 in
set_option maxHeartbeats 4000000 in
theorem wX11_name_81 {p : Program} {l : Launch} {e : Env} {s : State} {m : MethodId} {args : Array Value} {below : List Frame} {meth : Method} {c : Code} {E : GE} {res : (Unit × GS)} (hc : GM E p s m args meth c RX11 cX11_name 7 none) : ∀ (S : GS) (t2 : Int32) (a1 : Int32) (a3 : Int32) (a4 : Int32) (a5 : Int32) (H : Heap) (locs : List Loc) (ls : Array Slot), lv_has ls 7 [(0, gR E 54), (1, .int a1), (3, .int a3), (4, .int a4), (5, .int a5)] → GX E S H locs → fX11_name_81 S t2 a1 a3 a4 a5 = some res → W p l e rmX11_name s m args below meth c H locs 0 0 (gZ E below args s none res.2) (F0 m 81 ls [.int t2, .int (3 : Int32), gR E 61]) := by
  obtain ⟨hx, hb, -, -, -, hown, hts, -, -⟩ := id hc
  intro S t2 a1 a3 a4 a5 H locs ls hl hG h
  unfold fX11_name_81 at h
  obtain ⟨r2, hm1, h⟩ := g_bv h
  refine g_callSl (As := [.int t2]) hc hG (mX11_is l E hm1) mlX11_244 mcX11_is msX11_is rfl hl.1 rfl rfl ⟨by decide, by decide⟩ (Nat.le_of_ble_eq_true rfl) ⟨by decide, by decide⟩ dX11_name_81 rfl (fun H locs hG => ?_)
  refine g_last hc hG 61 8 (3) rfl rfl (by decide) (by decide) dX11_name_84 (fun S3 H locs eS3 hG => ?_)
  have h := g_let eS3 h
  refine lv_aload_n hx hb dX11_name_85 rfl (lv_at hl 0 rfl) ?_
  refine g_getR hc hG 54 61 flX11_36 rfl rfl rfl dX11_name_86 ?_
  refine lv_iconst (v := (4 : Int32)) hx hb dX11_name_89 (by decide) ?_
  refine lv_aload_n hx hb dX11_name_90 rfl (lv_at hl 0 rfl) ?_
  refine g_getR hc hG 54 68 flX11_58 rfl rfl rfl dX11_name_91 ?_
  refine lv_iload_n hx hb dX11_name_94 rfl (lv_at hl 1 rfl) ?_
  obtain ⟨hi4, h⟩ := g_if h
  refine g_iald hc hG 68 32 (a1.toNatClampNeg) rfl rfl hi4 rfl dX11_name_95 ?_
  refine lv_i2l (v := (((S3.1 68 a1.toNatClampNeg)).toInt64)) hx hb dX11_name_96 rfl ?_
  refine g_last hc hG 61 8 (4) rfl rfl (by decide) (by decide) dX11_name_97 (fun S5 H locs eS5 hG => ?_)
  have h := g_let eS5 h
  refine lv_aload_n hx hb dX11_name_98 rfl (lv_at hl 0 rfl) ?_
  refine g_getR hc hG 54 61 flX11_36 rfl rfl rfl dX11_name_99 ?_
  refine lv_iconst (v := (5 : Int32)) hx hb dX11_name_102 (by decide) ?_
  refine lv_iload_n hx hb dX11_name_103 rfl (lv_at hl 2 rfl) ?_
  refine lv_i2l (v := ((a3).toInt64)) hx hb dX11_name_104 rfl ?_
  refine g_last hc hG 61 8 (5) rfl rfl (by decide) (by decide) dX11_name_105 (fun S6 H locs eS6 hG => ?_)
  have h := g_let eS6 h
  refine lv_aload_n hx hb dX11_name_106 rfl (lv_at hl 0 rfl) ?_
  refine g_getR hc hG 54 61 flX11_36 rfl rfl rfl dX11_name_107 ?_
  refine lv_bipush (v := (6 : Int32)) hx hb dX11_name_110 (by decide) ?_
  refine lv_iload hx hb dX11_name_112 (lv_at hl 3 rfl) ?_
  refine lv_i2l (v := ((a4).toInt64)) hx hb dX11_name_114 rfl ?_
  refine g_last hc hG 61 8 (6) rfl rfl (by decide) (by decide) dX11_name_115 (fun S7 H locs eS7 hG => ?_)
  have h := g_let eS7 h
  refine lv_aload_n hx hb dX11_name_116 rfl (lv_at hl 0 rfl) ?_
  refine g_getR hc hG 54 61 flX11_36 rfl rfl rfl dX11_name_117 ?_
  refine lv_bipush (v := (7 : Int32)) hx hb dX11_name_120 (by decide) ?_
  refine lv_iload hx hb dX11_name_122 (lv_at hl 4 rfl) ?_
  refine lv_i2l (v := ((a5).toInt64)) hx hb dX11_name_124 rfl ?_
  refine g_last hc hG 61 8 (7) rfl rfl (by decide) (by decide) dX11_name_125 (fun S8 H locs eS8 hG => ?_)
  have h := g_let eS8 h
  exact g_vret hc hG dX11_name_126 h
def fX11_name_51 (S : GS) (t2 : Int32) (a1 : Int32) (a2 : Int32) (a3 : Int32) (a4 : Int32) (a5 : Int32) (a6 : Int32) : Option (Unit × GS) := gbv (fX11_is S t2) fun r2 => glet (gsl S 61 (2) r2) fun S3 => (if gib a6 6 = true then (if gib a2 6 = true then (if (S3.1 64 a6.toNatClampNeg) = (S3.1 64 a2.toNatClampNeg) then (fX11_name_81 S3 (1 : Int32) a1 a3 a4 a5) else (fX11_name_81 S3 (0 : Int32) a1 a3 a4 a5)) else none) else none)
set_option maxRecDepth 100000 in
set_option maxHeartbeats 4000000 in
theorem wX11_name_51 {p : Program} {l : Launch} {e : Env} {s : State} {m : MethodId} {args : Array Value} {below : List Frame} {meth : Method} {c : Code} {E : GE} {res : (Unit × GS)} (hc : GM E p s m args meth c RX11 cX11_name 7 none) : ∀ (S : GS) (t2 : Int32) (a1 : Int32) (a2 : Int32) (a3 : Int32) (a4 : Int32) (a5 : Int32) (a6 : Int32) (H : Heap) (locs : List Loc) (ls : Array Slot), lv_has ls 7 [(0, gR E 54), (1, .int a1), (2, .int a2), (3, .int a3), (4, .int a4), (5, .int a5), (6, .int a6)] → GX E S H locs → fX11_name_51 S t2 a1 a2 a3 a4 a5 a6 = some res → W p l e rmX11_name s m args below meth c H locs 0 0 (gZ E below args s none res.2) (F0 m 51 ls [.int t2, .int (2 : Int32), gR E 61]) := by
  obtain ⟨hx, hb, -, -, -, hown, hts, -, -⟩ := id hc
  intro S t2 a1 a2 a3 a4 a5 a6 H locs ls hl hG h
  unfold fX11_name_51 at h
  obtain ⟨r2, hm1, h⟩ := g_bv h
  refine g_callSl (As := [.int t2]) hc hG (mX11_is l E hm1) mlX11_244 mcX11_is msX11_is rfl hl.1 rfl rfl ⟨by decide, by decide⟩ (Nat.le_of_ble_eq_true rfl) ⟨by decide, by decide⟩ dX11_name_51 rfl (fun H locs hG => ?_)
  refine g_last hc hG 61 8 (2) rfl rfl (by decide) (by decide) dX11_name_54 (fun S3 H locs eS3 hG => ?_)
  have h := g_let eS3 h
  refine lv_aload_n hx hb dX11_name_55 rfl (lv_at hl 0 rfl) ?_
  refine g_getR hc hG 54 61 flX11_36 rfl rfl rfl dX11_name_56 ?_
  refine lv_iconst (v := (3 : Int32)) hx hb dX11_name_59 (by decide) ?_
  refine lv_aload_n hx hb dX11_name_60 rfl (lv_at hl 0 rfl) ?_
  refine g_getR hc hG 54 64 flX11_46 rfl rfl rfl dX11_name_61 ?_
  refine lv_iload hx hb dX11_name_64 (lv_at hl 6 rfl) ?_
  obtain ⟨hi4, h⟩ := g_if h
  refine g_iald hc hG 64 6 (a6.toNatClampNeg) rfl rfl hi4 rfl dX11_name_66 ?_
  refine lv_aload_n hx hb dX11_name_67 rfl (lv_at hl 0 rfl) ?_
  refine g_getR hc hG 54 64 flX11_46 rfl rfl rfl dX11_name_68 ?_
  refine lv_iload_n hx hb dX11_name_71 rfl (lv_at hl 2 rfl) ?_
  obtain ⟨hi5, h⟩ := g_if h
  refine g_iald hc hG 64 6 (a2.toNatClampNeg) rfl rfl hi5 rfl dX11_name_72 ?_
  refine lv_icmp_ne (tgt := 80) hx hb dX11_name_73 (by decide) (fun c6 => ?_) (fun c6 => ?_)
  · have h := g_neg c6 h
    refine lv_iconst (v := (0 : Int32)) hx hb dX11_name_80 (by decide) ?_
    exact wX11_name_81 hc S3 (0 : Int32) a1 a3 a4 a5 _ _ _ (lv_sub hl [0, 1, 3, 4, 5] rfl) hG h
  · have h := g_pos c6 h
    refine lv_iconst (v := (1 : Int32)) hx hb dX11_name_76 (by decide) ?_
    refine lv_goto (tgt := 81) hx hb dX11_name_77 (by decide) ?_
    exact wX11_name_81 hc S3 (1 : Int32) a1 a3 a4 a5 _ _ _ (lv_sub hl [0, 1, 3, 4, 5] rfl) hG h
def fX11_name (S : GS) (a1 : Int32) (a2 : Int32) (a3 : Int32) (a4 : Int32) (a5 : Int32) : Option (Unit × GS) := (if gib a1 32 = true then glet (S.1 66 a1.toNatClampNeg) fun v2 => (if gib v2 6 = true then glet (gsl S 61 (0) (((S.1 63 v2.toNatClampNeg)).toInt64)) fun S4 => (if gib a2 6 = true then glet (gsl S4 61 (1) (((S4.1 63 a2.toNatClampNeg)).toInt64)) fun S6 => (if v2 = a2 then (fX11_name_51 S6 (1 : Int32) a1 a2 a3 a4 a5 v2) else (fX11_name_51 S6 (0 : Int32) a1 a2 a3 a4 a5 v2)) else none) else none) else none)
set_option maxRecDepth 100000 in
set_option maxHeartbeats 4000000 in
theorem wX11_name_0 {p : Program} {l : Launch} {e : Env} {s : State} {m : MethodId} {args : Array Value} {below : List Frame} {meth : Method} {c : Code} {E : GE} {res : (Unit × GS)} (hc : GM E p s m args meth c RX11 cX11_name 7 none) : ∀ (S : GS) (a1 : Int32) (a2 : Int32) (a3 : Int32) (a4 : Int32) (a5 : Int32) (H : Heap) (locs : List Loc) (ls : Array Slot), lv_has ls 7 [(0, gR E 54), (1, .int a1), (2, .int a2), (3, .int a3), (4, .int a4), (5, .int a5)] → GX E S H locs → fX11_name S a1 a2 a3 a4 a5 = some res → W p l e rmX11_name s m args below meth c H locs 0 0 (gZ E below args s none res.2) (F0 m 0 ls []) := by
  obtain ⟨hx, hb, -, -, -, hown, hts, -, -⟩ := id hc
  intro S a1 a2 a3 a4 a5 H locs ls hl hG h
  unfold fX11_name at h
  refine lv_aload_n hx hb dX11_name_0 rfl (lv_at hl 0 rfl) ?_
  refine g_getR hc hG 54 66 flX11_52 rfl rfl rfl dX11_name_1 ?_
  refine lv_iload_n hx hb dX11_name_4 rfl (lv_at hl 1 rfl) ?_
  obtain ⟨hi1, h⟩ := g_if h
  refine g_iald hc hG 66 32 (a1.toNatClampNeg) rfl rfl hi1 rfl dX11_name_5 ?_
  refine lv_topi (fun v2 ev2 => ?_)
  have h := g_let ev2 h
  refine lv_istore (lv' := [(6, .int v2), (0, gR E 54), (1, .int a1), (2, .int a2), (3, .int a3), (4, .int a4), (5, .int a5)]) hx hb dX11_name_6 hl (by decide) rfl (fun ls hl => ?_)
  refine lv_aload_n hx hb dX11_name_8 rfl (lv_at hl 1 rfl) ?_
  refine g_getR hc hG 54 61 flX11_36 rfl rfl rfl dX11_name_9 ?_
  refine lv_iconst (v := (0 : Int32)) hx hb dX11_name_12 (by decide) ?_
  refine lv_aload_n hx hb dX11_name_13 rfl (lv_at hl 1 rfl) ?_
  refine g_getR hc hG 54 63 flX11_43 rfl rfl rfl dX11_name_14 ?_
  refine lv_iload hx hb dX11_name_17 (lv_at hl 0 rfl) ?_
  obtain ⟨hi3, h⟩ := g_if h
  refine g_iald hc hG 63 6 (v2.toNatClampNeg) rfl rfl hi3 rfl dX11_name_19 ?_
  refine lv_i2l (v := (((S.1 63 v2.toNatClampNeg)).toInt64)) hx hb dX11_name_20 rfl ?_
  refine g_last hc hG 61 8 (0) rfl rfl (by decide) (by decide) dX11_name_21 (fun S4 H locs eS4 hG => ?_)
  have h := g_let eS4 h
  refine lv_aload_n hx hb dX11_name_22 rfl (lv_at hl 1 rfl) ?_
  refine g_getR hc hG 54 61 flX11_36 rfl rfl rfl dX11_name_23 ?_
  refine lv_iconst (v := (1 : Int32)) hx hb dX11_name_26 (by decide) ?_
  refine lv_aload_n hx hb dX11_name_27 rfl (lv_at hl 1 rfl) ?_
  refine g_getR hc hG 54 63 flX11_43 rfl rfl rfl dX11_name_28 ?_
  refine lv_iload_n hx hb dX11_name_31 rfl (lv_at hl 3 rfl) ?_
  obtain ⟨hi5, h⟩ := g_if h
  refine g_iald hc hG 63 6 (a2.toNatClampNeg) rfl rfl hi5 rfl dX11_name_32 ?_
  refine lv_i2l (v := (((S4.1 63 a2.toNatClampNeg)).toInt64)) hx hb dX11_name_33 rfl ?_
  refine g_last hc hG 61 8 (1) rfl rfl (by decide) (by decide) dX11_name_34 (fun S6 H locs eS6 hG => ?_)
  have h := g_let eS6 h
  refine lv_aload_n hx hb dX11_name_35 rfl (lv_at hl 1 rfl) ?_
  refine g_getR hc hG 54 61 flX11_36 rfl rfl rfl dX11_name_36 ?_
  refine lv_iconst (v := (2 : Int32)) hx hb dX11_name_39 (by decide) ?_
  refine lv_iload hx hb dX11_name_40 (lv_at hl 0 rfl) ?_
  refine lv_iload_n hx hb dX11_name_42 rfl (lv_at hl 3 rfl) ?_
  refine lv_icmp_ne (tgt := 50) hx hb dX11_name_43 (by decide) (fun c7 => ?_) (fun c7 => ?_)
  · have h := g_neg c7 h
    refine lv_iconst (v := (0 : Int32)) hx hb dX11_name_50 (by decide) ?_
    exact wX11_name_51 hc S6 (0 : Int32) a1 a2 a3 a4 a5 v2 _ _ _ (lv_sub hl [1, 2, 3, 4, 5, 6, 0] rfl) hG h
  · have h := g_pos c7 h
    refine lv_iconst (v := (1 : Int32)) hx hb dX11_name_46 (by decide) ?_
    refine lv_goto (tgt := 51) hx hb dX11_name_47 (by decide) ?_
    exact wX11_name_51 hc S6 (1 : Int32) a1 a2 a3 a4 a5 v2 _ _ _ (lv_sub hl [1, 2, 3, 4, 5, 6, 0] rfl) hG h
theorem mX11_name (l : Launch) (E : GE) {S : GS} {a1 : Int32} {a2 : Int32} {a3 : Int32} {a4 : Int32} {a5 : Int32} {res : (Unit × GS)} (h : fX11_name S a1 a2 a3 a4 a5 = some res) : gMet l E yX11_name cX11_name 7 none rmX11_name [gR E 54, .int a1, .int a2, .int a3, .int a4, .int a5] S none res.2 :=
  g_met (by decide) (Nat.le_of_ble_eq_true rfl) rfl fun p e s m below meth c H ls hc hG hl => wX11_name_0 hc S a1 a2 a3 a4 a5 H [] ls hl hG h
abbrev rmX11_isOverruled : Room := { frames := 3, cells := 0, slots := 0, locals := 71 }
def fX11_isOverruled_3 : Nat → GS → Int32 → Int32 → Int32 → Int32 → Option (Int32 × GS)
  | 0, _, _, _, _, _ => none
  | n + 1, S, a1, a2, a3, a4 => (if (S.1 54 41) ≤ a4 then (some ((0 : Int32), S)) else (if gib a4 120 = true then glet (S.1 73 a4.toNatClampNeg) fun v3 => (if (S.1 78 a4.toNatClampNeg) = 0 then glet (a4 + (1 : Int32)) fun v5 => (fX11_isOverruled_3 n S a1 a2 a3 v5) else (if (S.1 71 a4.toNatClampNeg) = (2 : Int32) then (if (S.1 74 a4.toNatClampNeg) = a1 then (if gib (S.1 75 a4.toNatClampNeg) 12 = true then (if (S.1 79 ((S.1 75 a4.toNatClampNeg)).toNatClampNeg) = a2 then (if gib v3 32 = true then (if a3 ≤ (S.1 82 v3.toNatClampNeg) then glet (a4 + (1 : Int32)) fun v15 => (fX11_isOverruled_3 n S a1 a2 a3 v15) else (if (S.1 85 v3.toNatClampNeg) = 0 then (if gib a1 32 = true then gbv (fX11_votes S v3 a2 (S.1 69 v3.toNatClampNeg)) fun r19 => gbv (fX11_doubts S a1 a2 a3) fun r21 => gbd (fX11_name S v3 (S.1 66 a1.toNatClampNeg) r19 ((S.1 67 v3.toNatClampNeg) - (S.1 67 a1.toNatClampNeg)) r21) fun r23 S24 => gbd (fX11_holdsE S24 (1 : Int32)) fun r26 S27 => (if r26 = 0 then glet (a4 + (1 : Int32)) fun v29 => (fX11_isOverruled_3 n S27 a1 a2 a3 v29) else (some ((1 : Int32), S27))) else none) else glet (a4 + (1 : Int32)) fun v30 => (fX11_isOverruled_3 n S a1 a2 a3 v30))) else none) else glet (a4 + (1 : Int32)) fun v12 => (fX11_isOverruled_3 n S a1 a2 a3 v12)) else none) else glet (a4 + (1 : Int32)) fun v9 => (fX11_isOverruled_3 n S a1 a2 a3 v9)) else glet (a4 + (1 : Int32)) fun v7 => (fX11_isOverruled_3 n S a1 a2 a3 v7))) else none))
set_option maxRecDepth 100000 in
set_option maxHeartbeats 4000000 in
theorem wX11_isOverruled_3 {p : Program} {l : Launch} {e : Env} {s : State} {m : MethodId} {args : Array Value} {below : List Frame} {meth : Method} {c : Code} {E : GE} {res : (Int32 × GS)} (hc : GM E p s m args meth c RX11 cX11_isOverruled 6 (some .boolean)) : ∀ (n : Nat), ∀ (S : GS) (a1 : Int32) (a2 : Int32) (a3 : Int32) (a4 : Int32) (H : Heap) (locs : List Loc) (ls : Array Slot), lv_has ls 6 [(0, gR E 54), (1, .int a1), (2, .int a2), (3, .int a3), (4, .int a4)] → GX E S H locs → fX11_isOverruled_3 n S a1 a2 a3 a4 = some res → W p l e rmX11_isOverruled s m args below meth c H locs 0 0 (gZ E below args s (some (.int res.1)) res.2) (F0 m 3 ls []) := by
  obtain ⟨hx, hb, -, -, -, hown, hts, -, -⟩ := id hc
  intro n
  induction n with
  | zero => intro S a1 a2 a3 a4 H locs ls hl hG h; cases h
  | succ n ih =>
    intro S a1 a2 a3 a4 H locs ls hl hG h
    rw [fX11_isOverruled_3] at h
    refine lv_iload hx hb dX11_isOverruled_3 (lv_at hl 4 rfl) ?_
    refine lv_aload_n hx hb dX11_isOverruled_5 rfl (lv_at hl 0 rfl) ?_
    refine g_getI hc hG 54 flX11_282 rfl rfl dX11_isOverruled_6 ?_
    refine lv_icmp_ge (tgt := 156) hx hb dX11_isOverruled_9 (by decide) (fun c1 => ?_) (fun c1 => ?_)
    · have h := g_pos c1 h
      refine lv_iconst (v := (0 : Int32)) hx hb dX11_isOverruled_156 (by decide) ?_
      exact g_zret hc hG (Or.inl rfl) dX11_isOverruled_157 h
    · have h := g_neg c1 h
      refine lv_aload_n hx hb dX11_isOverruled_12 rfl (lv_at hl 0 rfl) ?_
      refine g_getR hc hG 54 73 flX11_73 rfl rfl rfl dX11_isOverruled_13 ?_
      refine lv_iload hx hb dX11_isOverruled_16 (lv_at hl 4 rfl) ?_
      obtain ⟨hi2, h⟩ := g_if h
      refine g_iald hc hG 73 120 (a4.toNatClampNeg) rfl rfl hi2 rfl dX11_isOverruled_18 ?_
      refine lv_topi (fun v3 ev3 => ?_)
      have h := g_let ev3 h
      refine lv_istore (lv' := [(5, .int v3), (0, gR E 54), (1, .int a1), (2, .int a2), (3, .int a3), (4, .int a4)]) hx hb dX11_isOverruled_19 hl (by decide) rfl (fun ls hl => ?_)
      refine lv_aload_n hx hb dX11_isOverruled_21 rfl (lv_at hl 1 rfl) ?_
      refine g_getR hc hG 54 78 flX11_88 rfl rfl rfl dX11_isOverruled_22 ?_
      refine lv_iload hx hb dX11_isOverruled_25 (lv_at hl 5 rfl) ?_
      refine g_zald hc hG 78 120 (a4.toNatClampNeg) rfl rfl hi2 rfl dX11_isOverruled_27 ?_
      refine lv_if_eq (tgt := 150) hx hb dX11_isOverruled_28 (by decide) (fun c4 => ?_) (fun c4 => ?_)
      · have h := g_pos c4 h
        obtain ⟨v5, ev5⟩ : ∃ y : Int32, y = (a4 + (1 : Int32)) := ⟨_, rfl⟩
        have h := g_let ev5 h
        refine lv_iinc (v := v5) (lv' := [(4, .int v5), (5, .int v3), (0, gR E 54), (1, .int a1), (2, .int a2), (3, .int a3)]) hx hb dX11_isOverruled_150 hl (k := 5) rfl (by rw [ev5]; rfl) (by decide) rfl (fun ls hl => ?_)
        refine lv_goto (tgt := 3) hx hb dX11_isOverruled_153 (by decide) ?_
        exact ih S a1 a2 a3 v5 _ _ _ (lv_sub hl [2, 3, 4, 5, 0] rfl) hG h
      · have h := g_neg c4 h
        refine lv_aload_n hx hb dX11_isOverruled_31 rfl (lv_at hl 1 rfl) ?_
        refine g_getR hc hG 54 71 flX11_67 rfl rfl rfl dX11_isOverruled_32 ?_
        refine lv_iload hx hb dX11_isOverruled_35 (lv_at hl 5 rfl) ?_
        refine g_iald hc hG 71 120 (a4.toNatClampNeg) rfl rfl hi2 rfl dX11_isOverruled_37 ?_
        refine lv_iconst (v := (2 : Int32)) hx hb dX11_isOverruled_38 (by decide) ?_
        refine lv_icmp_ne (tgt := 150) hx hb dX11_isOverruled_39 (by decide) (fun c6 => ?_) (fun c6 => ?_)
        · have h := g_neg c6 h
          obtain ⟨v7, ev7⟩ : ∃ y : Int32, y = (a4 + (1 : Int32)) := ⟨_, rfl⟩
          have h := g_let ev7 h
          refine lv_iinc (v := v7) (lv' := [(4, .int v7), (5, .int v3), (0, gR E 54), (1, .int a1), (2, .int a2), (3, .int a3)]) hx hb dX11_isOverruled_150 hl (k := 5) rfl (by rw [ev7]; rfl) (by decide) rfl (fun ls hl => ?_)
          refine lv_goto (tgt := 3) hx hb dX11_isOverruled_153 (by decide) ?_
          exact ih S a1 a2 a3 v7 _ _ _ (lv_sub hl [2, 3, 4, 5, 0] rfl) hG h
        · have h := g_pos c6 h
          refine lv_aload_n hx hb dX11_isOverruled_42 rfl (lv_at hl 1 rfl) ?_
          refine g_getR hc hG 54 74 flX11_76 rfl rfl rfl dX11_isOverruled_43 ?_
          refine lv_iload hx hb dX11_isOverruled_46 (lv_at hl 5 rfl) ?_
          refine g_iald hc hG 74 120 (a4.toNatClampNeg) rfl rfl hi2 rfl dX11_isOverruled_48 ?_
          refine lv_iload_n hx hb dX11_isOverruled_49 rfl (lv_at hl 2 rfl) ?_
          refine lv_icmp_ne (tgt := 150) hx hb dX11_isOverruled_50 (by decide) (fun c8 => ?_) (fun c8 => ?_)
          · have h := g_neg c8 h
            obtain ⟨v9, ev9⟩ : ∃ y : Int32, y = (a4 + (1 : Int32)) := ⟨_, rfl⟩
            have h := g_let ev9 h
            refine lv_iinc (v := v9) (lv' := [(4, .int v9), (5, .int v3), (0, gR E 54), (1, .int a1), (2, .int a2), (3, .int a3)]) hx hb dX11_isOverruled_150 hl (k := 5) rfl (by rw [ev9]; rfl) (by decide) rfl (fun ls hl => ?_)
            refine lv_goto (tgt := 3) hx hb dX11_isOverruled_153 (by decide) ?_
            exact ih S a1 a2 a3 v9 _ _ _ (lv_sub hl [2, 3, 4, 5, 0] rfl) hG h
          · have h := g_pos c8 h
            refine lv_aload_n hx hb dX11_isOverruled_53 rfl (lv_at hl 1 rfl) ?_
            refine g_getR hc hG 54 79 flX11_91 rfl rfl rfl dX11_isOverruled_54 ?_
            refine lv_aload_n hx hb dX11_isOverruled_57 rfl (lv_at hl 1 rfl) ?_
            refine g_getR hc hG 54 75 flX11_79 rfl rfl rfl dX11_isOverruled_58 ?_
            refine lv_iload hx hb dX11_isOverruled_61 (lv_at hl 5 rfl) ?_
            refine g_iald hc hG 75 120 (a4.toNatClampNeg) rfl rfl hi2 rfl dX11_isOverruled_63 ?_
            obtain ⟨hi10, h⟩ := g_if h
            refine g_iald hc hG 79 12 (((S.1 75 a4.toNatClampNeg)).toNatClampNeg) rfl rfl hi10 rfl dX11_isOverruled_64 ?_
            refine lv_iload_n hx hb dX11_isOverruled_65 rfl (lv_at hl 3 rfl) ?_
            refine lv_icmp_ne (tgt := 150) hx hb dX11_isOverruled_66 (by decide) (fun c11 => ?_) (fun c11 => ?_)
            · have h := g_neg c11 h
              obtain ⟨v12, ev12⟩ : ∃ y : Int32, y = (a4 + (1 : Int32)) := ⟨_, rfl⟩
              have h := g_let ev12 h
              refine lv_iinc (v := v12) (lv' := [(4, .int v12), (5, .int v3), (0, gR E 54), (1, .int a1), (2, .int a2), (3, .int a3)]) hx hb dX11_isOverruled_150 hl (k := 5) rfl (by rw [ev12]; rfl) (by decide) rfl (fun ls hl => ?_)
              refine lv_goto (tgt := 3) hx hb dX11_isOverruled_153 (by decide) ?_
              exact ih S a1 a2 a3 v12 _ _ _ (lv_sub hl [2, 3, 4, 5, 0] rfl) hG h
            · have h := g_pos c11 h
              refine lv_aload_n hx hb dX11_isOverruled_69 rfl (lv_at hl 1 rfl) ?_
              refine g_getR hc hG 54 82 flX11_100 rfl rfl rfl dX11_isOverruled_70 ?_
              refine lv_iload hx hb dX11_isOverruled_73 (lv_at hl 0 rfl) ?_
              obtain ⟨hi13, h⟩ := g_if h
              refine g_iald hc hG 82 32 (v3.toNatClampNeg) rfl rfl hi13 rfl dX11_isOverruled_75 ?_
              refine lv_iload_n hx hb dX11_isOverruled_76 rfl (lv_at hl 4 rfl) ?_
              refine lv_icmp_ge (tgt := 150) hx hb dX11_isOverruled_77 (by decide) (fun c14 => ?_) (fun c14 => ?_)
              · have h := g_pos c14 h
                obtain ⟨v15, ev15⟩ : ∃ y : Int32, y = (a4 + (1 : Int32)) := ⟨_, rfl⟩
                have h := g_let ev15 h
                refine lv_iinc (v := v15) (lv' := [(4, .int v15), (5, .int v3), (0, gR E 54), (1, .int a1), (2, .int a2), (3, .int a3)]) hx hb dX11_isOverruled_150 hl (k := 5) rfl (by rw [ev15]; rfl) (by decide) rfl (fun ls hl => ?_)
                refine lv_goto (tgt := 3) hx hb dX11_isOverruled_153 (by decide) ?_
                exact ih S a1 a2 a3 v15 _ _ _ (lv_sub hl [2, 3, 4, 5, 0] rfl) hG h
              · have h := g_neg c14 h
                refine lv_aload_n hx hb dX11_isOverruled_80 rfl (lv_at hl 1 rfl) ?_
                refine g_getR hc hG 54 85 flX11_109 rfl rfl rfl dX11_isOverruled_81 ?_
                refine lv_iload hx hb dX11_isOverruled_84 (lv_at hl 0 rfl) ?_
                refine g_zald hc hG 85 32 (v3.toNatClampNeg) rfl rfl hi13 rfl dX11_isOverruled_86 ?_
                refine lv_if_eq (tgt := 93) hx hb dX11_isOverruled_87 (by decide) (fun c16 => ?_) (fun c16 => ?_)
                · have h := g_pos c16 h
                  refine lv_aload_n hx hb dX11_isOverruled_93 rfl (lv_at hl 1 rfl) ?_
                  refine lv_iload hx hb dX11_isOverruled_94 (lv_at hl 0 rfl) ?_
                  refine lv_aload_n hx hb dX11_isOverruled_96 rfl (lv_at hl 1 rfl) ?_
                  refine g_getR hc hG 54 66 flX11_52 rfl rfl rfl dX11_isOverruled_97 ?_
                  refine lv_iload_n hx hb dX11_isOverruled_100 rfl (lv_at hl 2 rfl) ?_
                  obtain ⟨hi17, h⟩ := g_if h
                  refine g_iald hc hG 66 32 (a1.toNatClampNeg) rfl rfl hi17 rfl dX11_isOverruled_101 ?_
                  refine lv_aload_n hx hb dX11_isOverruled_102 rfl (lv_at hl 1 rfl) ?_
                  refine lv_iload hx hb dX11_isOverruled_103 (lv_at hl 0 rfl) ?_
                  refine lv_iload_n hx hb dX11_isOverruled_105 rfl (lv_at hl 3 rfl) ?_
                  refine lv_aload_n hx hb dX11_isOverruled_106 rfl (lv_at hl 1 rfl) ?_
                  refine g_getR hc hG 54 69 flX11_61 rfl rfl rfl dX11_isOverruled_107 ?_
                  refine lv_iload hx hb dX11_isOverruled_110 (lv_at hl 0 rfl) ?_
                  refine g_iald hc hG 69 32 (v3.toNatClampNeg) rfl rfl hi13 rfl dX11_isOverruled_112 ?_
                  obtain ⟨r19, hm18, h⟩ := g_bv h
                  refine g_callVi (As := [.int v3, .int a2, .int (S.1 69 v3.toNatClampNeg)]) hc hG (mX11_votes l E hm18) mlX11_318 mcX11_votes miX11_votes rfl rfl rfl rfl hl.1 rfl rfl ⟨by decide, by decide⟩ (Nat.le_of_ble_eq_true rfl) ⟨by decide, by decide⟩ dX11_isOverruled_113 rfl (fun H locs hG => ?_)
                  refine lv_aload_n hx hb dX11_isOverruled_116 rfl (lv_at hl 1 rfl) ?_
                  refine g_getR hc hG 54 67 flX11_55 rfl rfl rfl dX11_isOverruled_117 ?_
                  refine lv_iload hx hb dX11_isOverruled_120 (lv_at hl 0 rfl) ?_
                  refine g_iald hc hG 67 32 (v3.toNatClampNeg) rfl rfl hi13 rfl dX11_isOverruled_122 ?_
                  refine lv_aload_n hx hb dX11_isOverruled_123 rfl (lv_at hl 1 rfl) ?_
                  refine g_getR hc hG 54 67 flX11_55 rfl rfl rfl dX11_isOverruled_124 ?_
                  refine lv_iload_n hx hb dX11_isOverruled_127 rfl (lv_at hl 2 rfl) ?_
                  refine g_iald hc hG 67 32 (a1.toNatClampNeg) rfl rfl hi17 rfl dX11_isOverruled_128 ?_
                  refine lv_isub hx hb dX11_isOverruled_129 ?_
                  refine lv_aload_n hx hb dX11_isOverruled_130 rfl (lv_at hl 1 rfl) ?_
                  refine lv_iload_n hx hb dX11_isOverruled_131 rfl (lv_at hl 2 rfl) ?_
                  refine lv_iload_n hx hb dX11_isOverruled_132 rfl (lv_at hl 3 rfl) ?_
                  refine lv_iload_n hx hb dX11_isOverruled_133 rfl (lv_at hl 4 rfl) ?_
                  obtain ⟨r21, hm20, h⟩ := g_bv h
                  refine g_callVi (As := [.int a1, .int a2, .int a3]) hc hG (mX11_doubts l E hm20) mlX11_322 mcX11_doubts miX11_doubts rfl rfl rfl rfl hl.1 rfl rfl ⟨by decide, by decide⟩ (Nat.le_of_ble_eq_true rfl) ⟨by decide, by decide⟩ dX11_isOverruled_134 rfl (fun H locs hG => ?_)
                  obtain ⟨r23, S24, hm22, h⟩ := g_bd h
                  refine g_callVv (As := [.int v3, .int (S.1 66 a1.toNatClampNeg), .int r19, .int ((S.1 67 v3.toNatClampNeg) - (S.1 67 a1.toNatClampNeg)), .int r21]) hc hG (mX11_name l E hm22) mlX11_325 mcX11_name miX11_name rfl rfl rfl rfl hl.1 rfl rfl ⟨by decide, by decide⟩ (Nat.le_of_ble_eq_true rfl) ⟨by decide, by decide⟩ dX11_isOverruled_137 rfl (fun H locs hG => ?_)
                  refine lv_aload_n hx hb dX11_isOverruled_140 rfl (lv_at hl 1 rfl) ?_
                  refine lv_iconst (v := (1 : Int32)) hx hb dX11_isOverruled_141 (by decide) ?_
                  obtain ⟨r26, S27, hm25, h⟩ := g_bd h
                  refine g_callVi (As := [.int (1 : Int32)]) hc hG (mX11_holdsE l E hm25) mlX11_329 mcX11_holdsE miX11_holdsE rfl rfl rfl rfl hl.1 rfl rfl ⟨by decide, by decide⟩ (Nat.le_of_ble_eq_true rfl) ⟨by decide, by decide⟩ dX11_isOverruled_142 rfl (fun H locs hG => ?_)
                  refine lv_if_eq (tgt := 150) hx hb dX11_isOverruled_145 (by decide) (fun c28 => ?_) (fun c28 => ?_)
                  · have h := g_pos c28 h
                    obtain ⟨v29, ev29⟩ : ∃ y : Int32, y = (a4 + (1 : Int32)) := ⟨_, rfl⟩
                    have h := g_let ev29 h
                    refine lv_iinc (v := v29) (lv' := [(4, .int v29), (5, .int v3), (0, gR E 54), (1, .int a1), (2, .int a2), (3, .int a3)]) hx hb dX11_isOverruled_150 hl (k := 5) rfl (by rw [ev29]; rfl) (by decide) rfl (fun ls hl => ?_)
                    refine lv_goto (tgt := 3) hx hb dX11_isOverruled_153 (by decide) ?_
                    exact ih S27 a1 a2 a3 v29 _ _ _ (lv_sub hl [2, 3, 4, 5, 0] rfl) hG h
                  · have h := g_neg c28 h
                    refine lv_iconst (v := (1 : Int32)) hx hb dX11_isOverruled_148 (by decide) ?_
                    exact g_zret hc hG (Or.inr rfl) dX11_isOverruled_149 h
                · have h := g_neg c16 h
                  refine lv_goto (tgt := 150) hx hb dX11_isOverruled_90 (by decide) ?_
                  obtain ⟨v30, ev30⟩ : ∃ y : Int32, y = (a4 + (1 : Int32)) := ⟨_, rfl⟩
                  have h := g_let ev30 h
                  refine lv_iinc (v := v30) (lv' := [(4, .int v30), (5, .int v3), (0, gR E 54), (1, .int a1), (2, .int a2), (3, .int a3)]) hx hb dX11_isOverruled_150 hl (k := 5) rfl (by rw [ev30]; rfl) (by decide) rfl (fun ls hl => ?_)
                  refine lv_goto (tgt := 3) hx hb dX11_isOverruled_153 (by decide) ?_
                  exact ih S a1 a2 a3 v30 _ _ _ (lv_sub hl [2, 3, 4, 5, 0] rfl) hG h
def fX11_isOverruled (S : GS) (a1 : Int32) (a2 : Int32) (a3 : Int32) : Option (Int32 × GS) := glet (0 : Int32) fun v1 => (fX11_isOverruled_3 FU S a1 a2 a3 v1)
set_option maxRecDepth 100000 in
set_option maxHeartbeats 4000000 in
theorem wX11_isOverruled_0 {p : Program} {l : Launch} {e : Env} {s : State} {m : MethodId} {args : Array Value} {below : List Frame} {meth : Method} {c : Code} {E : GE} {res : (Int32 × GS)} (hc : GM E p s m args meth c RX11 cX11_isOverruled 6 (some .boolean)) : ∀ (S : GS) (a1 : Int32) (a2 : Int32) (a3 : Int32) (H : Heap) (locs : List Loc) (ls : Array Slot), lv_has ls 6 [(0, gR E 54), (1, .int a1), (2, .int a2), (3, .int a3)] → GX E S H locs → fX11_isOverruled S a1 a2 a3 = some res → W p l e rmX11_isOverruled s m args below meth c H locs 0 0 (gZ E below args s (some (.int res.1)) res.2) (F0 m 0 ls []) := by
  obtain ⟨hx, hb, -, -, -, hown, hts, -, -⟩ := id hc
  intro S a1 a2 a3 H locs ls hl hG h
  unfold fX11_isOverruled at h
  refine lv_iconst (v := (0 : Int32)) hx hb dX11_isOverruled_0 (by decide) ?_
  refine lv_topi (fun v1 ev1 => ?_)
  have h := g_let ev1 h
  refine lv_istore (lv' := [(4, .int v1), (0, gR E 54), (1, .int a1), (2, .int a2), (3, .int a3)]) hx hb dX11_isOverruled_1 hl (by decide) rfl (fun ls hl => ?_)
  exact wX11_isOverruled_3 hc FU S a1 a2 a3 v1 _ _ _ (lv_sub hl [1, 2, 3, 4, 0] rfl) hG h
theorem mX11_isOverruled (l : Launch) (E : GE) {S : GS} {a1 : Int32} {a2 : Int32} {a3 : Int32} {res : (Int32 × GS)} (h : fX11_isOverruled S a1 a2 a3 = some res) : gMet l E yX11_isOverruled cX11_isOverruled 6 (some .boolean) rmX11_isOverruled [gR E 54, .int a1, .int a2, .int a3] S (some (.int res.1)) res.2 :=
  g_met (by decide) (Nat.le_of_ble_eq_true rfl) rfl fun p e s m below meth c H ls hc hG hl => wX11_isOverruled_0 hc S a1 a2 a3 H [] ls hl hG h
abbrev rmX11_isTaken : Room := { frames := 0, cells := 0, slots := 0, locals := 0 }
def fX11_isTaken_3 : Nat → GS → Int32 → Int32 → Int32 → Int32 → Option Int32
  | 0, _, _, _, _, _ => none
  | n + 1, S, a1, a2, a3, a4 => (if (S.1 54 41) ≤ a4 then (some (0 : Int32)) else (if gib a4 120 = true then (if (S.1 78 a4.toNatClampNeg) = 0 then glet (a4 + (1 : Int32)) fun v4 => (fX11_isTaken_3 n S a1 a2 a3 v4) else (if (S.1 71 a4.toNatClampNeg) = (5 : Int32) then (if gib (S.1 75 a4.toNatClampNeg) 12 = true then (if (S.1 79 ((S.1 75 a4.toNatClampNeg)).toNatClampNeg) = a2 then (if a3 < (S.1 74 a4.toNatClampNeg) then glet (a4 + (1 : Int32)) fun v11 => (fX11_isTaken_3 n S a1 a2 a3 v11) else (if gib a1 32 = true then (if (S.1 74 a4.toNatClampNeg) < (S.1 67 a1.toNatClampNeg) then glet (a4 + (1 : Int32)) fun v14 => (fX11_isTaken_3 n S a1 a2 a3 v14) else (some (1 : Int32))) else none)) else glet (a4 + (1 : Int32)) fun v9 => (fX11_isTaken_3 n S a1 a2 a3 v9)) else none) else glet (a4 + (1 : Int32)) fun v6 => (fX11_isTaken_3 n S a1 a2 a3 v6))) else none))
set_option maxRecDepth 100000 in
set_option maxHeartbeats 4000000 in
theorem wX11_isTaken_3 {p : Program} {l : Launch} {e : Env} {s : State} {m : MethodId} {args : Array Value} {below : List Frame} {meth : Method} {c : Code} {E : GE} {res : Int32} (hc : GM E p s m args meth c RX11 cX11_isTaken 5 (some .boolean)) : ∀ (n : Nat), ∀ (S : GS) (a1 : Int32) (a2 : Int32) (a3 : Int32) (a4 : Int32) (H : Heap) (locs : List Loc) (ls : Array Slot), lv_has ls 5 [(0, gR E 54), (1, .int a1), (2, .int a2), (3, .int a3), (4, .int a4)] → GX E S H locs → fX11_isTaken_3 n S a1 a2 a3 a4 = some res → W p l e rmX11_isTaken s m args below meth c H locs 0 0 (gZ E below args s (some (.int res)) S) (F0 m 3 ls []) := by
  obtain ⟨hx, hb, -, -, -, hown, hts, -, -⟩ := id hc
  intro n
  induction n with
  | zero => intro S a1 a2 a3 a4 H locs ls hl hG h; cases h
  | succ n ih =>
    intro S a1 a2 a3 a4 H locs ls hl hG h
    rw [fX11_isTaken_3] at h
    refine lv_iload hx hb dX11_isTaken_3 (lv_at hl 4 rfl) ?_
    refine lv_aload_n hx hb dX11_isTaken_5 rfl (lv_at hl 0 rfl) ?_
    refine g_getI hc hG 54 flX11_282 rfl rfl dX11_isTaken_6 ?_
    refine lv_icmp_ge (tgt := 84) hx hb dX11_isTaken_9 (by decide) (fun c1 => ?_) (fun c1 => ?_)
    · have h := g_pos c1 h
      refine lv_iconst (v := (0 : Int32)) hx hb dX11_isTaken_84 (by decide) ?_
      exact g_zretp hc hG (Or.inl rfl) dX11_isTaken_85 h
    · have h := g_neg c1 h
      refine lv_aload_n hx hb dX11_isTaken_12 rfl (lv_at hl 0 rfl) ?_
      refine g_getR hc hG 54 78 flX11_88 rfl rfl rfl dX11_isTaken_13 ?_
      refine lv_iload hx hb dX11_isTaken_16 (lv_at hl 4 rfl) ?_
      obtain ⟨hi2, h⟩ := g_if h
      refine g_zald hc hG 78 120 (a4.toNatClampNeg) rfl rfl hi2 rfl dX11_isTaken_18 ?_
      refine lv_if_eq (tgt := 78) hx hb dX11_isTaken_19 (by decide) (fun c3 => ?_) (fun c3 => ?_)
      · have h := g_pos c3 h
        obtain ⟨v4, ev4⟩ : ∃ y : Int32, y = (a4 + (1 : Int32)) := ⟨_, rfl⟩
        have h := g_let ev4 h
        refine lv_iinc (v := v4) (lv' := [(4, .int v4), (0, gR E 54), (1, .int a1), (2, .int a2), (3, .int a3)]) hx hb dX11_isTaken_78 hl (k := 4) rfl (by rw [ev4]; rfl) (by decide) rfl (fun ls hl => ?_)
        refine lv_goto (tgt := 3) hx hb dX11_isTaken_81 (by decide) ?_
        exact ih S a1 a2 a3 v4 _ _ _ (lv_sub hl [1, 2, 3, 4, 0] rfl) hG h
      · have h := g_neg c3 h
        refine lv_aload_n hx hb dX11_isTaken_22 rfl (lv_at hl 0 rfl) ?_
        refine g_getR hc hG 54 71 flX11_67 rfl rfl rfl dX11_isTaken_23 ?_
        refine lv_iload hx hb dX11_isTaken_26 (lv_at hl 4 rfl) ?_
        refine g_iald hc hG 71 120 (a4.toNatClampNeg) rfl rfl hi2 rfl dX11_isTaken_28 ?_
        refine lv_iconst (v := (5 : Int32)) hx hb dX11_isTaken_29 (by decide) ?_
        refine lv_icmp_ne (tgt := 78) hx hb dX11_isTaken_30 (by decide) (fun c5 => ?_) (fun c5 => ?_)
        · have h := g_neg c5 h
          obtain ⟨v6, ev6⟩ : ∃ y : Int32, y = (a4 + (1 : Int32)) := ⟨_, rfl⟩
          have h := g_let ev6 h
          refine lv_iinc (v := v6) (lv' := [(4, .int v6), (0, gR E 54), (1, .int a1), (2, .int a2), (3, .int a3)]) hx hb dX11_isTaken_78 hl (k := 4) rfl (by rw [ev6]; rfl) (by decide) rfl (fun ls hl => ?_)
          refine lv_goto (tgt := 3) hx hb dX11_isTaken_81 (by decide) ?_
          exact ih S a1 a2 a3 v6 _ _ _ (lv_sub hl [1, 2, 3, 4, 0] rfl) hG h
        · have h := g_pos c5 h
          refine lv_aload_n hx hb dX11_isTaken_33 rfl (lv_at hl 0 rfl) ?_
          refine g_getR hc hG 54 79 flX11_91 rfl rfl rfl dX11_isTaken_34 ?_
          refine lv_aload_n hx hb dX11_isTaken_37 rfl (lv_at hl 0 rfl) ?_
          refine g_getR hc hG 54 75 flX11_79 rfl rfl rfl dX11_isTaken_38 ?_
          refine lv_iload hx hb dX11_isTaken_41 (lv_at hl 4 rfl) ?_
          refine g_iald hc hG 75 120 (a4.toNatClampNeg) rfl rfl hi2 rfl dX11_isTaken_43 ?_
          obtain ⟨hi7, h⟩ := g_if h
          refine g_iald hc hG 79 12 (((S.1 75 a4.toNatClampNeg)).toNatClampNeg) rfl rfl hi7 rfl dX11_isTaken_44 ?_
          refine lv_iload_n hx hb dX11_isTaken_45 rfl (lv_at hl 2 rfl) ?_
          refine lv_icmp_ne (tgt := 78) hx hb dX11_isTaken_46 (by decide) (fun c8 => ?_) (fun c8 => ?_)
          · have h := g_neg c8 h
            obtain ⟨v9, ev9⟩ : ∃ y : Int32, y = (a4 + (1 : Int32)) := ⟨_, rfl⟩
            have h := g_let ev9 h
            refine lv_iinc (v := v9) (lv' := [(4, .int v9), (0, gR E 54), (1, .int a1), (2, .int a2), (3, .int a3)]) hx hb dX11_isTaken_78 hl (k := 4) rfl (by rw [ev9]; rfl) (by decide) rfl (fun ls hl => ?_)
            refine lv_goto (tgt := 3) hx hb dX11_isTaken_81 (by decide) ?_
            exact ih S a1 a2 a3 v9 _ _ _ (lv_sub hl [1, 2, 3, 4, 0] rfl) hG h
          · have h := g_pos c8 h
            refine lv_aload_n hx hb dX11_isTaken_49 rfl (lv_at hl 0 rfl) ?_
            refine g_getR hc hG 54 74 flX11_76 rfl rfl rfl dX11_isTaken_50 ?_
            refine lv_iload hx hb dX11_isTaken_53 (lv_at hl 4 rfl) ?_
            refine g_iald hc hG 74 120 (a4.toNatClampNeg) rfl rfl hi2 rfl dX11_isTaken_55 ?_
            refine lv_iload_n hx hb dX11_isTaken_56 rfl (lv_at hl 3 rfl) ?_
            refine lv_icmp_gt (tgt := 78) hx hb dX11_isTaken_57 (by decide) (fun c10 => ?_) (fun c10 => ?_)
            · have h := g_pos c10 h
              obtain ⟨v11, ev11⟩ : ∃ y : Int32, y = (a4 + (1 : Int32)) := ⟨_, rfl⟩
              have h := g_let ev11 h
              refine lv_iinc (v := v11) (lv' := [(4, .int v11), (0, gR E 54), (1, .int a1), (2, .int a2), (3, .int a3)]) hx hb dX11_isTaken_78 hl (k := 4) rfl (by rw [ev11]; rfl) (by decide) rfl (fun ls hl => ?_)
              refine lv_goto (tgt := 3) hx hb dX11_isTaken_81 (by decide) ?_
              exact ih S a1 a2 a3 v11 _ _ _ (lv_sub hl [1, 2, 3, 4, 0] rfl) hG h
            · have h := g_neg c10 h
              refine lv_aload_n hx hb dX11_isTaken_60 rfl (lv_at hl 0 rfl) ?_
              refine g_getR hc hG 54 74 flX11_76 rfl rfl rfl dX11_isTaken_61 ?_
              refine lv_iload hx hb dX11_isTaken_64 (lv_at hl 4 rfl) ?_
              refine g_iald hc hG 74 120 (a4.toNatClampNeg) rfl rfl hi2 rfl dX11_isTaken_66 ?_
              refine lv_aload_n hx hb dX11_isTaken_67 rfl (lv_at hl 0 rfl) ?_
              refine g_getR hc hG 54 67 flX11_55 rfl rfl rfl dX11_isTaken_68 ?_
              refine lv_iload_n hx hb dX11_isTaken_71 rfl (lv_at hl 1 rfl) ?_
              obtain ⟨hi12, h⟩ := g_if h
              refine g_iald hc hG 67 32 (a1.toNatClampNeg) rfl rfl hi12 rfl dX11_isTaken_72 ?_
              refine lv_icmp_lt (tgt := 78) hx hb dX11_isTaken_73 (by decide) (fun c13 => ?_) (fun c13 => ?_)
              · have h := g_pos c13 h
                obtain ⟨v14, ev14⟩ : ∃ y : Int32, y = (a4 + (1 : Int32)) := ⟨_, rfl⟩
                have h := g_let ev14 h
                refine lv_iinc (v := v14) (lv' := [(4, .int v14), (0, gR E 54), (1, .int a1), (2, .int a2), (3, .int a3)]) hx hb dX11_isTaken_78 hl (k := 4) rfl (by rw [ev14]; rfl) (by decide) rfl (fun ls hl => ?_)
                refine lv_goto (tgt := 3) hx hb dX11_isTaken_81 (by decide) ?_
                exact ih S a1 a2 a3 v14 _ _ _ (lv_sub hl [1, 2, 3, 4, 0] rfl) hG h
              · have h := g_neg c13 h
                refine lv_iconst (v := (1 : Int32)) hx hb dX11_isTaken_76 (by decide) ?_
                exact g_zretp hc hG (Or.inr rfl) dX11_isTaken_77 h
def fX11_isTaken (S : GS) (a1 : Int32) (a2 : Int32) (a3 : Int32) : Option Int32 := glet (0 : Int32) fun v1 => (fX11_isTaken_3 FU S a1 a2 a3 v1)
set_option maxRecDepth 100000 in
set_option maxHeartbeats 4000000 in
theorem wX11_isTaken_0 {p : Program} {l : Launch} {e : Env} {s : State} {m : MethodId} {args : Array Value} {below : List Frame} {meth : Method} {c : Code} {E : GE} {res : Int32} (hc : GM E p s m args meth c RX11 cX11_isTaken 5 (some .boolean)) : ∀ (S : GS) (a1 : Int32) (a2 : Int32) (a3 : Int32) (H : Heap) (locs : List Loc) (ls : Array Slot), lv_has ls 5 [(0, gR E 54), (1, .int a1), (2, .int a2), (3, .int a3)] → GX E S H locs → fX11_isTaken S a1 a2 a3 = some res → W p l e rmX11_isTaken s m args below meth c H locs 0 0 (gZ E below args s (some (.int res)) S) (F0 m 0 ls []) := by
  obtain ⟨hx, hb, -, -, -, hown, hts, -, -⟩ := id hc
  intro S a1 a2 a3 H locs ls hl hG h
  unfold fX11_isTaken at h
  refine lv_iconst (v := (0 : Int32)) hx hb dX11_isTaken_0 (by decide) ?_
  refine lv_topi (fun v1 ev1 => ?_)
  have h := g_let ev1 h
  refine lv_istore (lv' := [(4, .int v1), (0, gR E 54), (1, .int a1), (2, .int a2), (3, .int a3)]) hx hb dX11_isTaken_1 hl (by decide) rfl (fun ls hl => ?_)
  exact wX11_isTaken_3 hc FU S a1 a2 a3 v1 _ _ _ (lv_sub hl [1, 2, 3, 4, 0] rfl) hG h
theorem mX11_isTaken (l : Launch) (E : GE) {S : GS} {a1 : Int32} {a2 : Int32} {a3 : Int32} {res : Int32} (h : fX11_isTaken S a1 a2 a3 = some res) : gMet l E yX11_isTaken cX11_isTaken 5 (some .boolean) rmX11_isTaken [gR E 54, .int a1, .int a2, .int a3] S (some (.int res)) S :=
  g_met (by decide) (Nat.le_of_ble_eq_true rfl) rfl fun p e s m below meth c H ls hc hG hl => wX11_isTaken_0 hc S a1 a2 a3 H [] ls hl hG h
abbrev rmX11_isGood : Room := { frames := 4, cells := 0, slots := 0, locals := 96 }
def fX11_isGood (S : GS) (a1 : Int32) (a2 : Int32) (a3 : Int32) (a4 : Int32) (a5 : Int32) : Option (Int32 × GS) := (if gib a1 32 = true then (if (S.1 85 a1.toNatClampNeg) = 0 then (if (((S.1 83 a1.toNatClampNeg) >>> (a2 &&& 31)) &&& (1 : Int32)) = 0 then gbv (fX11_isHeld S a1 a2 a3) fun r5 => (if r5 = 0 then (some ((0 : Int32), S)) else gbd (fX11_isOverruled S a1 a2 a4) fun r8 S9 => (if r8 = 0 then gbv (fX11_isTaken S9 a1 a2 a5) fun r12 => (if r12 = 0 then (some ((1 : Int32), S9)) else (some ((0 : Int32), S9))) else (some ((0 : Int32), S9)))) else (some ((0 : Int32), S))) else (some ((0 : Int32), S))) else none)
set_option maxRecDepth 100000 in
set_option maxHeartbeats 4000000 in
theorem wX11_isGood_0 {p : Program} {l : Launch} {e : Env} {s : State} {m : MethodId} {args : Array Value} {below : List Frame} {meth : Method} {c : Code} {E : GE} {res : (Int32 × GS)} (hc : GM E p s m args meth c RX11 cX11_isGood 6 (some .boolean)) : ∀ (S : GS) (a1 : Int32) (a2 : Int32) (a3 : Int32) (a4 : Int32) (a5 : Int32) (H : Heap) (locs : List Loc) (ls : Array Slot), lv_has ls 6 [(0, gR E 54), (1, .int a1), (2, .int a2), (3, .int a3), (4, .int a4), (5, .int a5)] → GX E S H locs → fX11_isGood S a1 a2 a3 a4 a5 = some res → W p l e rmX11_isGood s m args below meth c H locs 0 0 (gZ E below args s (some (.int res.1)) res.2) (F0 m 0 ls []) := by
  obtain ⟨hx, hb, -, -, -, hown, hts, -, -⟩ := id hc
  intro S a1 a2 a3 a4 a5 H locs ls hl hG h
  unfold fX11_isGood at h
  refine lv_aload_n hx hb dX11_isGood_0 rfl (lv_at hl 0 rfl) ?_
  refine g_getR hc hG 54 85 flX11_109 rfl rfl rfl dX11_isGood_1 ?_
  refine lv_iload_n hx hb dX11_isGood_4 rfl (lv_at hl 1 rfl) ?_
  obtain ⟨hi1, h⟩ := g_if h
  refine g_zald hc hG 85 32 (a1.toNatClampNeg) rfl rfl hi1 rfl dX11_isGood_5 ?_
  refine lv_if_ne (tgt := 58) hx hb dX11_isGood_6 (by decide) (fun c2 => ?_) (fun c2 => ?_)
  · have h := g_neg c2 h
    refine lv_iconst (v := (0 : Int32)) hx hb dX11_isGood_58 (by decide) ?_
    exact g_zret hc hG (Or.inl rfl) dX11_isGood_59 h
  · have h := g_pos c2 h
    refine lv_aload_n hx hb dX11_isGood_9 rfl (lv_at hl 0 rfl) ?_
    refine g_getR hc hG 54 83 flX11_103 rfl rfl rfl dX11_isGood_10 ?_
    refine lv_iload_n hx hb dX11_isGood_13 rfl (lv_at hl 1 rfl) ?_
    refine g_iald hc hG 83 32 (a1.toNatClampNeg) rfl rfl hi1 rfl dX11_isGood_14 ?_
    refine lv_iload_n hx hb dX11_isGood_15 rfl (lv_at hl 2 rfl) ?_
    refine lv_ishr hx hb dX11_isGood_16 ?_
    refine lv_iconst (v := (1 : Int32)) hx hb dX11_isGood_17 (by decide) ?_
    refine lv_iand hx hb dX11_isGood_18 ?_
    refine lv_if_ne (tgt := 58) hx hb dX11_isGood_19 (by decide) (fun c3 => ?_) (fun c3 => ?_)
    · have h := g_neg c3 h
      refine lv_iconst (v := (0 : Int32)) hx hb dX11_isGood_58 (by decide) ?_
      exact g_zret hc hG (Or.inl rfl) dX11_isGood_59 h
    · have h := g_pos c3 h
      refine lv_aload_n hx hb dX11_isGood_22 rfl (lv_at hl 0 rfl) ?_
      refine lv_iload_n hx hb dX11_isGood_23 rfl (lv_at hl 1 rfl) ?_
      refine lv_iload_n hx hb dX11_isGood_24 rfl (lv_at hl 2 rfl) ?_
      refine lv_iload_n hx hb dX11_isGood_25 rfl (lv_at hl 3 rfl) ?_
      obtain ⟨r5, hm4, h⟩ := g_bv h
      refine g_callVi (As := [.int a1, .int a2, .int a3]) hc hG (mX11_isHeld l E hm4) mlX11_332 mcX11_isHeld miX11_isHeld rfl rfl rfl rfl hl.1 rfl rfl ⟨by decide, by decide⟩ (Nat.le_of_ble_eq_true rfl) ⟨by decide, by decide⟩ dX11_isGood_26 rfl (fun H locs hG => ?_)
      refine lv_if_eq (tgt := 58) hx hb dX11_isGood_29 (by decide) (fun c6 => ?_) (fun c6 => ?_)
      · have h := g_pos c6 h
        refine lv_iconst (v := (0 : Int32)) hx hb dX11_isGood_58 (by decide) ?_
        exact g_zret hc hG (Or.inl rfl) dX11_isGood_59 h
      · have h := g_neg c6 h
        refine lv_aload_n hx hb dX11_isGood_32 rfl (lv_at hl 0 rfl) ?_
        refine lv_iload_n hx hb dX11_isGood_33 rfl (lv_at hl 1 rfl) ?_
        refine lv_iload_n hx hb dX11_isGood_34 rfl (lv_at hl 2 rfl) ?_
        refine lv_iload hx hb dX11_isGood_35 (lv_at hl 4 rfl) ?_
        obtain ⟨r8, S9, hm7, h⟩ := g_bd h
        refine g_callVi (As := [.int a1, .int a2, .int a4]) hc hG (mX11_isOverruled l E hm7) mlX11_336 mcX11_isOverruled miX11_isOverruled rfl rfl rfl rfl hl.1 rfl rfl ⟨by decide, by decide⟩ (Nat.le_of_ble_eq_true rfl) ⟨by decide, by decide⟩ dX11_isGood_37 rfl (fun H locs hG => ?_)
        refine lv_if_ne (tgt := 58) hx hb dX11_isGood_40 (by decide) (fun c10 => ?_) (fun c10 => ?_)
        · have h := g_neg c10 h
          refine lv_iconst (v := (0 : Int32)) hx hb dX11_isGood_58 (by decide) ?_
          exact g_zret hc hG (Or.inl rfl) dX11_isGood_59 h
        · have h := g_pos c10 h
          refine lv_aload_n hx hb dX11_isGood_43 rfl (lv_at hl 0 rfl) ?_
          refine lv_iload_n hx hb dX11_isGood_44 rfl (lv_at hl 1 rfl) ?_
          refine lv_iload_n hx hb dX11_isGood_45 rfl (lv_at hl 2 rfl) ?_
          refine lv_iload hx hb dX11_isGood_46 (lv_at hl 5 rfl) ?_
          obtain ⟨r12, hm11, h⟩ := g_bv h
          refine g_callVi (As := [.int a1, .int a2, .int a5]) hc hG (mX11_isTaken l E hm11) mlX11_339 mcX11_isTaken miX11_isTaken rfl rfl rfl rfl hl.1 rfl rfl ⟨by decide, by decide⟩ (Nat.le_of_ble_eq_true rfl) ⟨by decide, by decide⟩ dX11_isGood_48 rfl (fun H locs hG => ?_)
          refine lv_if_ne (tgt := 58) hx hb dX11_isGood_51 (by decide) (fun c13 => ?_) (fun c13 => ?_)
          · have h := g_neg c13 h
            refine lv_iconst (v := (0 : Int32)) hx hb dX11_isGood_58 (by decide) ?_
            exact g_zret hc hG (Or.inl rfl) dX11_isGood_59 h
          · have h := g_pos c13 h
            refine lv_iconst (v := (1 : Int32)) hx hb dX11_isGood_54 (by decide) ?_
            refine lv_goto (tgt := 59) hx hb dX11_isGood_55 (by decide) ?_
            exact g_zret hc hG (Or.inr rfl) dX11_isGood_59 h
theorem mX11_isGood (l : Launch) (E : GE) {S : GS} {a1 : Int32} {a2 : Int32} {a3 : Int32} {a4 : Int32} {a5 : Int32} {res : (Int32 × GS)} (h : fX11_isGood S a1 a2 a3 a4 a5 = some res) : gMet l E yX11_isGood cX11_isGood 6 (some .boolean) rmX11_isGood [gR E 54, .int a1, .int a2, .int a3, .int a4, .int a5] S (some (.int res.1)) res.2 :=
  g_met (by decide) (Nat.le_of_ble_eq_true rfl) rfl fun p e s m below meth c H ls hc hG hl => wX11_isGood_0 hc S a1 a2 a3 a4 a5 H [] ls hl hG h
abbrev rmX11_isBinding : Room := { frames := 3, cells := 0, slots := 0, locals := 71 }
def fX11_isBinding (S : GS) (a1 : Int32) (a2 : Int32) (a3 : Int32) (a4 : Int32) (a5 : Int32) (a6 : Int32) : Option (Int32 × GS) := gbv (fX11_votes S a1 a2 a4) fun r2 => (if gib a1 32 = true then gbv (fX11_doubts S a1 a2 a5) fun r5 => gbd (fX11_name S a1 a3 r2 (a6 - (S.1 67 a1.toNatClampNeg)) r5) fun r7 S8 => gbd (fX11_holdsE S8 (0 : Int32)) fun r10 S11 => (if (r10 = 0 ∨ r10 = 1) then (some (r10, S11)) else none) else none)
set_option maxRecDepth 100000 in
set_option maxHeartbeats 4000000 in
theorem wX11_isBinding_0 {p : Program} {l : Launch} {e : Env} {s : State} {m : MethodId} {args : Array Value} {below : List Frame} {meth : Method} {c : Code} {E : GE} {res : (Int32 × GS)} (hc : GM E p s m args meth c RX11 cX11_isBinding 7 (some .boolean)) : ∀ (S : GS) (a1 : Int32) (a2 : Int32) (a3 : Int32) (a4 : Int32) (a5 : Int32) (a6 : Int32) (H : Heap) (locs : List Loc) (ls : Array Slot), lv_has ls 7 [(0, gR E 54), (1, .int a1), (2, .int a2), (3, .int a3), (4, .int a4), (5, .int a5), (6, .int a6)] → GX E S H locs → fX11_isBinding S a1 a2 a3 a4 a5 a6 = some res → W p l e rmX11_isBinding s m args below meth c H locs 0 0 (gZ E below args s (some (.int res.1)) res.2) (F0 m 0 ls []) := by
  obtain ⟨hx, hb, -, -, -, hown, hts, -, -⟩ := id hc
  intro S a1 a2 a3 a4 a5 a6 H locs ls hl hG h
  unfold fX11_isBinding at h
  refine lv_aload_n hx hb dX11_isBinding_0 rfl (lv_at hl 0 rfl) ?_
  refine lv_iload_n hx hb dX11_isBinding_1 rfl (lv_at hl 1 rfl) ?_
  refine lv_iload_n hx hb dX11_isBinding_2 rfl (lv_at hl 3 rfl) ?_
  refine lv_aload_n hx hb dX11_isBinding_3 rfl (lv_at hl 0 rfl) ?_
  refine lv_iload_n hx hb dX11_isBinding_4 rfl (lv_at hl 1 rfl) ?_
  refine lv_iload_n hx hb dX11_isBinding_5 rfl (lv_at hl 2 rfl) ?_
  refine lv_iload hx hb dX11_isBinding_6 (lv_at hl 4 rfl) ?_
  obtain ⟨r2, hm1, h⟩ := g_bv h
  refine g_callVi (As := [.int a1, .int a2, .int a4]) hc hG (mX11_votes l E hm1) mlX11_318 mcX11_votes miX11_votes rfl rfl rfl rfl hl.1 rfl rfl ⟨by decide, by decide⟩ (Nat.le_of_ble_eq_true rfl) ⟨by decide, by decide⟩ dX11_isBinding_8 rfl (fun H locs hG => ?_)
  refine lv_iload hx hb dX11_isBinding_11 (lv_at hl 6 rfl) ?_
  refine lv_aload_n hx hb dX11_isBinding_13 rfl (lv_at hl 0 rfl) ?_
  refine g_getR hc hG 54 67 flX11_55 rfl rfl rfl dX11_isBinding_14 ?_
  refine lv_iload_n hx hb dX11_isBinding_17 rfl (lv_at hl 1 rfl) ?_
  obtain ⟨hi3, h⟩ := g_if h
  refine g_iald hc hG 67 32 (a1.toNatClampNeg) rfl rfl hi3 rfl dX11_isBinding_18 ?_
  refine lv_isub hx hb dX11_isBinding_19 ?_
  refine lv_aload_n hx hb dX11_isBinding_20 rfl (lv_at hl 0 rfl) ?_
  refine lv_iload_n hx hb dX11_isBinding_21 rfl (lv_at hl 1 rfl) ?_
  refine lv_iload_n hx hb dX11_isBinding_22 rfl (lv_at hl 2 rfl) ?_
  refine lv_iload hx hb dX11_isBinding_23 (lv_at hl 5 rfl) ?_
  obtain ⟨r5, hm4, h⟩ := g_bv h
  refine g_callVi (As := [.int a1, .int a2, .int a5]) hc hG (mX11_doubts l E hm4) mlX11_322 mcX11_doubts miX11_doubts rfl rfl rfl rfl hl.1 rfl rfl ⟨by decide, by decide⟩ (Nat.le_of_ble_eq_true rfl) ⟨by decide, by decide⟩ dX11_isBinding_25 rfl (fun H locs hG => ?_)
  obtain ⟨r7, S8, hm6, h⟩ := g_bd h
  refine g_callVv (As := [.int a1, .int a3, .int r2, .int (a6 - (S.1 67 a1.toNatClampNeg)), .int r5]) hc hG (mX11_name l E hm6) mlX11_325 mcX11_name miX11_name rfl rfl rfl rfl hl.1 rfl rfl ⟨by decide, by decide⟩ (Nat.le_of_ble_eq_true rfl) ⟨by decide, by decide⟩ dX11_isBinding_28 rfl (fun H locs hG => ?_)
  refine lv_aload_n hx hb dX11_isBinding_31 rfl (lv_at hl 0 rfl) ?_
  refine lv_iconst (v := (0 : Int32)) hx hb dX11_isBinding_32 (by decide) ?_
  obtain ⟨r10, S11, hm9, h⟩ := g_bd h
  refine g_callVi (As := [.int (0 : Int32)]) hc hG (mX11_holdsE l E hm9) mlX11_329 mcX11_holdsE miX11_holdsE rfl rfl rfl rfl hl.1 rfl rfl ⟨by decide, by decide⟩ (Nat.le_of_ble_eq_true rfl) ⟨by decide, by decide⟩ dX11_isBinding_33 rfl (fun H locs hG => ?_)
  obtain ⟨hz12, h⟩ := g_if h
  exact g_zret hc hG hz12 dX11_isBinding_36 h
theorem mX11_isBinding (l : Launch) (E : GE) {S : GS} {a1 : Int32} {a2 : Int32} {a3 : Int32} {a4 : Int32} {a5 : Int32} {a6 : Int32} {res : (Int32 × GS)} (h : fX11_isBinding S a1 a2 a3 a4 a5 a6 = some res) : gMet l E yX11_isBinding cX11_isBinding 7 (some .boolean) rmX11_isBinding [gR E 54, .int a1, .int a2, .int a3, .int a4, .int a5, .int a6] S (some (.int res.1)) res.2 :=
  g_met (by decide) (Nat.le_of_ble_eq_true rfl) rfl fun p e s m below meth c H ls hc hG hl => wX11_isBinding_0 hc S a1 a2 a3 a4 a5 a6 H [] ls hl hG h
abbrev rmX11_forgets : Room := { frames := 5, cells := 0, slots := 0, locals := 121 }
def fX11_forgets_29 : Nat → GS → Int32 → Int32 → Int32 → Int32 → Int32 → Option (Unit × GS)
  | 0, _, _, _, _, _, _ => none
  | n + 1, S, a1, a2, a3, a4, a5 => (if a4 ≤ a5 then (some ((), S)) else (if gib a5 32 = true then glet (S.1 81 a5.toNatClampNeg) fun v3 => (if gib a1 32 = true then gbd (fX11_isGood S v3 a3 (S.1 69 a1.toNatClampNeg) a4 (S.1 67 a1.toNatClampNeg)) fun r6 S7 => (if r6 = 0 then glet (a5 + (1 : Int32)) fun v9 => (fX11_forgets_29 n S7 a1 a2 a3 a4 v9) else gbd (fX11_isBinding S7 v3 a3 (S7.1 66 a1.toNatClampNeg) (S7.1 69 a1.toNatClampNeg) a4 (S7.1 67 a1.toNatClampNeg)) fun r11 S12 => (if r11 = 0 then glet (a5 + (1 : Int32)) fun v17 => (fX11_forgets_29 n S12 a1 a2 a3 a4 v17) else glet (gsi S12 83 (a1.toNatClampNeg) ((S12.1 83 a1.toNatClampNeg) ||| ((1 : Int32) <<< (a2 &&& 31)))) fun S14 => glet (gsi S14 84 (a1.toNatClampNeg) ((S14.1 84 a1.toNatClampNeg) ||| ((1 : Int32) <<< (v3 &&& 31)))) fun S15 => glet (a5 + (1 : Int32)) fun v16 => (fX11_forgets_29 n S15 a1 a2 a3 a4 v16))) else none) else none))
set_option maxRecDepth 100000 in
set_option maxHeartbeats 4000000 in
theorem wX11_forgets_29 {p : Program} {l : Launch} {e : Env} {s : State} {m : MethodId} {args : Array Value} {below : List Frame} {meth : Method} {c : Code} {E : GE} {res : (Unit × GS)} (hc : GM E p s m args meth c RX11 cX11_forgets 7 none) : ∀ (n : Nat), ∀ (S : GS) (a1 : Int32) (a2 : Int32) (a3 : Int32) (a4 : Int32) (a5 : Int32) (H : Heap) (locs : List Loc) (ls : Array Slot), lv_has ls 7 [(0, gR E 54), (1, .int a1), (2, .int a2), (3, .int a3), (4, .int a4), (5, .int a5)] → GX E S H locs → fX11_forgets_29 n S a1 a2 a3 a4 a5 = some res → W p l e rmX11_forgets s m args below meth c H locs 0 0 (gZ E below args s none res.2) (F0 m 29 ls []) := by
  obtain ⟨hx, hb, -, -, -, hown, hts, -, -⟩ := id hc
  intro n
  induction n with
  | zero => intro S a1 a2 a3 a4 a5 H locs ls hl hG h; cases h
  | succ n ih =>
    intro S a1 a2 a3 a4 a5 H locs ls hl hG h
    rw [fX11_forgets_29] at h
    refine lv_iload hx hb dX11_forgets_29 (lv_at hl 5 rfl) ?_
    refine lv_iload hx hb dX11_forgets_31 (lv_at hl 4 rfl) ?_
    refine lv_icmp_ge (tgt := 133) hx hb dX11_forgets_33 (by decide) (fun c1 => ?_) (fun c1 => ?_)
    · have h := g_pos c1 h
      exact g_vret hc hG dX11_forgets_133 h
    · have h := g_neg c1 h
      refine lv_aload_n hx hb dX11_forgets_36 rfl (lv_at hl 0 rfl) ?_
      refine g_getR hc hG 54 81 flX11_97 rfl rfl rfl dX11_forgets_37 ?_
      refine lv_iload hx hb dX11_forgets_40 (lv_at hl 5 rfl) ?_
      obtain ⟨hi2, h⟩ := g_if h
      refine g_iald hc hG 81 32 (a5.toNatClampNeg) rfl rfl hi2 rfl dX11_forgets_42 ?_
      refine lv_topi (fun v3 ev3 => ?_)
      have h := g_let ev3 h
      refine lv_istore (lv' := [(6, .int v3), (0, gR E 54), (1, .int a1), (2, .int a2), (3, .int a3), (4, .int a4), (5, .int a5)]) hx hb dX11_forgets_43 hl (by decide) rfl (fun ls hl => ?_)
      refine lv_aload_n hx hb dX11_forgets_45 rfl (lv_at hl 1 rfl) ?_
      refine lv_iload hx hb dX11_forgets_46 (lv_at hl 0 rfl) ?_
      refine lv_iload_n hx hb dX11_forgets_48 rfl (lv_at hl 4 rfl) ?_
      refine lv_aload_n hx hb dX11_forgets_49 rfl (lv_at hl 1 rfl) ?_
      refine g_getR hc hG 54 69 flX11_61 rfl rfl rfl dX11_forgets_50 ?_
      refine lv_iload_n hx hb dX11_forgets_53 rfl (lv_at hl 2 rfl) ?_
      obtain ⟨hi4, h⟩ := g_if h
      refine g_iald hc hG 69 32 (a1.toNatClampNeg) rfl rfl hi4 rfl dX11_forgets_54 ?_
      refine lv_iload hx hb dX11_forgets_55 (lv_at hl 5 rfl) ?_
      refine lv_aload_n hx hb dX11_forgets_57 rfl (lv_at hl 1 rfl) ?_
      refine g_getR hc hG 54 67 flX11_55 rfl rfl rfl dX11_forgets_58 ?_
      refine lv_iload_n hx hb dX11_forgets_61 rfl (lv_at hl 2 rfl) ?_
      refine g_iald hc hG 67 32 (a1.toNatClampNeg) rfl rfl hi4 rfl dX11_forgets_62 ?_
      obtain ⟨r6, S7, hm5, h⟩ := g_bd h
      refine g_callVi (As := [.int v3, .int a3, .int (S.1 69 a1.toNatClampNeg), .int a4, .int (S.1 67 a1.toNatClampNeg)]) hc hG (mX11_isGood l E hm5) mlX11_352 mcX11_isGood miX11_isGood rfl rfl rfl rfl hl.1 rfl rfl ⟨by decide, by decide⟩ (Nat.le_of_ble_eq_true rfl) ⟨by decide, by decide⟩ dX11_forgets_63 rfl (fun H locs hG => ?_)
      refine lv_if_eq (tgt := 127) hx hb dX11_forgets_66 (by decide) (fun c8 => ?_) (fun c8 => ?_)
      · have h := g_pos c8 h
        obtain ⟨v9, ev9⟩ : ∃ y : Int32, y = (a5 + (1 : Int32)) := ⟨_, rfl⟩
        have h := g_let ev9 h
        refine lv_iinc (v := v9) (lv' := [(5, .int v9), (6, .int v3), (0, gR E 54), (1, .int a1), (2, .int a2), (3, .int a3), (4, .int a4)]) hx hb dX11_forgets_127 hl (k := 6) rfl (by rw [ev9]; rfl) (by decide) rfl (fun ls hl => ?_)
        refine lv_goto (tgt := 29) hx hb dX11_forgets_130 (by decide) ?_
        exact ih S7 a1 a2 a3 a4 v9 _ _ _ (lv_sub hl [2, 3, 4, 5, 6, 0] rfl) hG h
      · have h := g_neg c8 h
        refine lv_aload_n hx hb dX11_forgets_69 rfl (lv_at hl 1 rfl) ?_
        refine lv_iload hx hb dX11_forgets_70 (lv_at hl 0 rfl) ?_
        refine lv_iload_n hx hb dX11_forgets_72 rfl (lv_at hl 4 rfl) ?_
        refine lv_aload_n hx hb dX11_forgets_73 rfl (lv_at hl 1 rfl) ?_
        refine g_getR hc hG 54 66 flX11_52 rfl rfl rfl dX11_forgets_74 ?_
        refine lv_iload_n hx hb dX11_forgets_77 rfl (lv_at hl 2 rfl) ?_
        refine g_iald hc hG 66 32 (a1.toNatClampNeg) rfl rfl hi4 rfl dX11_forgets_78 ?_
        refine lv_aload_n hx hb dX11_forgets_79 rfl (lv_at hl 1 rfl) ?_
        refine g_getR hc hG 54 69 flX11_61 rfl rfl rfl dX11_forgets_80 ?_
        refine lv_iload_n hx hb dX11_forgets_83 rfl (lv_at hl 2 rfl) ?_
        refine g_iald hc hG 69 32 (a1.toNatClampNeg) rfl rfl hi4 rfl dX11_forgets_84 ?_
        refine lv_iload hx hb dX11_forgets_85 (lv_at hl 5 rfl) ?_
        refine lv_aload_n hx hb dX11_forgets_87 rfl (lv_at hl 1 rfl) ?_
        refine g_getR hc hG 54 67 flX11_55 rfl rfl rfl dX11_forgets_88 ?_
        refine lv_iload_n hx hb dX11_forgets_91 rfl (lv_at hl 2 rfl) ?_
        refine g_iald hc hG 67 32 (a1.toNatClampNeg) rfl rfl hi4 rfl dX11_forgets_92 ?_
        obtain ⟨r11, S12, hm10, h⟩ := g_bd h
        refine g_callVi (As := [.int v3, .int a3, .int (S7.1 66 a1.toNatClampNeg), .int (S7.1 69 a1.toNatClampNeg), .int a4, .int (S7.1 67 a1.toNatClampNeg)]) hc hG (mX11_isBinding l E hm10) mlX11_356 mcX11_isBinding miX11_isBinding rfl rfl rfl rfl hl.1 rfl rfl ⟨by decide, by decide⟩ (Nat.le_of_ble_eq_true rfl) ⟨by decide, by decide⟩ dX11_forgets_93 rfl (fun H locs hG => ?_)
        refine lv_if_ne (tgt := 102) hx hb dX11_forgets_96 (by decide) (fun c13 => ?_) (fun c13 => ?_)
        · have h := g_neg c13 h
          refine lv_aload_n hx hb dX11_forgets_102 rfl (lv_at hl 1 rfl) ?_
          refine g_getR hc hG 54 83 flX11_103 rfl rfl rfl dX11_forgets_103 ?_
          refine lv_iload_n hx hb dX11_forgets_106 rfl (lv_at hl 2 rfl) ?_
          refine lv_dup2_11 hx hb dX11_forgets_107 rfl rfl ?_
          refine g_iald hc hG 83 32 (a1.toNatClampNeg) rfl rfl hi4 rfl dX11_forgets_108 ?_
          refine lv_iconst (v := (1 : Int32)) hx hb dX11_forgets_109 (by decide) ?_
          refine lv_iload_n hx hb dX11_forgets_110 rfl (lv_at hl 3 rfl) ?_
          refine lv_ishl hx hb dX11_forgets_111 ?_
          refine lv_ior hx hb dX11_forgets_112 ?_
          refine g_iast hc hG 83 32 (a1.toNatClampNeg) rfl rfl hi4 rfl dX11_forgets_113 (fun S14 H locs eS14 hG => ?_)
          have h := g_let eS14 h
          refine lv_aload_n hx hb dX11_forgets_114 rfl (lv_at hl 1 rfl) ?_
          refine g_getR hc hG 54 84 flX11_106 rfl rfl rfl dX11_forgets_115 ?_
          refine lv_iload_n hx hb dX11_forgets_118 rfl (lv_at hl 2 rfl) ?_
          refine lv_dup2_11 hx hb dX11_forgets_119 rfl rfl ?_
          refine g_iald hc hG 84 32 (a1.toNatClampNeg) rfl rfl hi4 rfl dX11_forgets_120 ?_
          refine lv_iconst (v := (1 : Int32)) hx hb dX11_forgets_121 (by decide) ?_
          refine lv_iload hx hb dX11_forgets_122 (lv_at hl 0 rfl) ?_
          refine lv_ishl hx hb dX11_forgets_124 ?_
          refine lv_ior hx hb dX11_forgets_125 ?_
          refine g_iast hc hG 84 32 (a1.toNatClampNeg) rfl rfl hi4 rfl dX11_forgets_126 (fun S15 H locs eS15 hG => ?_)
          have h := g_let eS15 h
          obtain ⟨v16, ev16⟩ : ∃ y : Int32, y = (a5 + (1 : Int32)) := ⟨_, rfl⟩
          have h := g_let ev16 h
          refine lv_iinc (v := v16) (lv' := [(5, .int v16), (6, .int v3), (0, gR E 54), (1, .int a1), (2, .int a2), (3, .int a3), (4, .int a4)]) hx hb dX11_forgets_127 hl (k := 6) rfl (by rw [ev16]; rfl) (by decide) rfl (fun ls hl => ?_)
          refine lv_goto (tgt := 29) hx hb dX11_forgets_130 (by decide) ?_
          exact ih S15 a1 a2 a3 a4 v16 _ _ _ (lv_sub hl [2, 3, 4, 5, 6, 0] rfl) hG h
        · have h := g_pos c13 h
          refine lv_goto (tgt := 127) hx hb dX11_forgets_99 (by decide) ?_
          obtain ⟨v17, ev17⟩ : ∃ y : Int32, y = (a5 + (1 : Int32)) := ⟨_, rfl⟩
          have h := g_let ev17 h
          refine lv_iinc (v := v17) (lv' := [(5, .int v17), (6, .int v3), (0, gR E 54), (1, .int a1), (2, .int a2), (3, .int a3), (4, .int a4)]) hx hb dX11_forgets_127 hl (k := 6) rfl (by rw [ev17]; rfl) (by decide) rfl (fun ls hl => ?_)
          refine lv_goto (tgt := 29) hx hb dX11_forgets_130 (by decide) ?_
          exact ih S12 a1 a2 a3 a4 v17 _ _ _ (lv_sub hl [2, 3, 4, 5, 6, 0] rfl) hG h
def fX11_forgets (S : GS) (a1 : Int32) (a2 : Int32) (a3 : Int32) (a4 : Int32) : Option (Unit × GS) := (if gib a1 32 = true then gbv (fX11_isLaid S a3 (S.1 67 a1.toNatClampNeg)) fun r3 => (if r3 = 0 then glet (0 : Int32) fun v5 => (fX11_forgets_29 FU S a1 a2 a3 a4 v5) else glet (gsi S 83 (a1.toNatClampNeg) ((S.1 83 a1.toNatClampNeg) ||| ((1 : Int32) <<< (a2 &&& 31)))) fun S6 => glet (0 : Int32) fun v7 => (fX11_forgets_29 FU S6 a1 a2 a3 a4 v7)) else none)
set_option maxRecDepth 100000 in
set_option maxHeartbeats 4000000 in
theorem wX11_forgets_0 {p : Program} {l : Launch} {e : Env} {s : State} {m : MethodId} {args : Array Value} {below : List Frame} {meth : Method} {c : Code} {E : GE} {res : (Unit × GS)} (hc : GM E p s m args meth c RX11 cX11_forgets 7 none) : ∀ (S : GS) (a1 : Int32) (a2 : Int32) (a3 : Int32) (a4 : Int32) (H : Heap) (locs : List Loc) (ls : Array Slot), lv_has ls 7 [(0, gR E 54), (1, .int a1), (2, .int a2), (3, .int a3), (4, .int a4)] → GX E S H locs → fX11_forgets S a1 a2 a3 a4 = some res → W p l e rmX11_forgets s m args below meth c H locs 0 0 (gZ E below args s none res.2) (F0 m 0 ls []) := by
  obtain ⟨hx, hb, -, -, -, hown, hts, -, -⟩ := id hc
  intro S a1 a2 a3 a4 H locs ls hl hG h
  unfold fX11_forgets at h
  refine lv_aload_n hx hb dX11_forgets_0 rfl (lv_at hl 0 rfl) ?_
  refine lv_iload_n hx hb dX11_forgets_1 rfl (lv_at hl 3 rfl) ?_
  refine lv_aload_n hx hb dX11_forgets_2 rfl (lv_at hl 0 rfl) ?_
  refine g_getR hc hG 54 67 flX11_55 rfl rfl rfl dX11_forgets_3 ?_
  refine lv_iload_n hx hb dX11_forgets_6 rfl (lv_at hl 1 rfl) ?_
  obtain ⟨hi1, h⟩ := g_if h
  refine g_iald hc hG 67 32 (a1.toNatClampNeg) rfl rfl hi1 rfl dX11_forgets_7 ?_
  obtain ⟨r3, hm2, h⟩ := g_bv h
  refine g_callVi (As := [.int a3, .int (S.1 67 a1.toNatClampNeg)]) hc hG (mX11_isLaid l E hm2) mlX11_349 mcX11_isLaid miX11_isLaid rfl rfl rfl rfl hl.1 rfl rfl ⟨by decide, by decide⟩ (Nat.le_of_ble_eq_true rfl) ⟨by decide, by decide⟩ dX11_forgets_8 rfl (fun H locs hG => ?_)
  refine lv_if_eq (tgt := 26) hx hb dX11_forgets_11 (by decide) (fun c4 => ?_) (fun c4 => ?_)
  · have h := g_pos c4 h
    refine lv_iconst (v := (0 : Int32)) hx hb dX11_forgets_26 (by decide) ?_
    refine lv_topi (fun v5 ev5 => ?_)
    have h := g_let ev5 h
    refine lv_istore (lv' := [(5, .int v5), (0, gR E 54), (1, .int a1), (2, .int a2), (3, .int a3), (4, .int a4)]) hx hb dX11_forgets_27 hl (by decide) rfl (fun ls hl => ?_)
    exact wX11_forgets_29 hc FU S a1 a2 a3 a4 v5 _ _ _ (lv_sub hl [1, 2, 3, 4, 5, 0] rfl) hG h
  · have h := g_neg c4 h
    refine lv_aload_n hx hb dX11_forgets_14 rfl (lv_at hl 0 rfl) ?_
    refine g_getR hc hG 54 83 flX11_103 rfl rfl rfl dX11_forgets_15 ?_
    refine lv_iload_n hx hb dX11_forgets_18 rfl (lv_at hl 1 rfl) ?_
    refine lv_dup2_11 hx hb dX11_forgets_19 rfl rfl ?_
    refine g_iald hc hG 83 32 (a1.toNatClampNeg) rfl rfl hi1 rfl dX11_forgets_20 ?_
    refine lv_iconst (v := (1 : Int32)) hx hb dX11_forgets_21 (by decide) ?_
    refine lv_iload_n hx hb dX11_forgets_22 rfl (lv_at hl 2 rfl) ?_
    refine lv_ishl hx hb dX11_forgets_23 ?_
    refine lv_ior hx hb dX11_forgets_24 ?_
    refine g_iast hc hG 83 32 (a1.toNatClampNeg) rfl rfl hi1 rfl dX11_forgets_25 (fun S6 H locs eS6 hG => ?_)
    have h := g_let eS6 h
    refine lv_iconst (v := (0 : Int32)) hx hb dX11_forgets_26 (by decide) ?_
    refine lv_topi (fun v7 ev7 => ?_)
    have h := g_let ev7 h
    refine lv_istore (lv' := [(5, .int v7), (0, gR E 54), (1, .int a1), (2, .int a2), (3, .int a3), (4, .int a4)]) hx hb dX11_forgets_27 hl (by decide) rfl (fun ls hl => ?_)
    exact wX11_forgets_29 hc FU S6 a1 a2 a3 a4 v7 _ _ _ (lv_sub hl [1, 2, 3, 4, 5, 0] rfl) hG h
theorem mX11_forgets (l : Launch) (E : GE) {S : GS} {a1 : Int32} {a2 : Int32} {a3 : Int32} {a4 : Int32} {res : (Unit × GS)} (h : fX11_forgets S a1 a2 a3 a4 = some res) : gMet l E yX11_forgets cX11_forgets 7 none rmX11_forgets [gR E 54, .int a1, .int a2, .int a3, .int a4] S none res.2 :=
  g_met (by decide) (Nat.le_of_ble_eq_true rfl) rfl fun p e s m below meth c H ls hc hG hl => wX11_forgets_0 hc S a1 a2 a3 a4 H [] ls hl hG h
abbrev rmX11_blinds : Room := { frames := 6, cells := 0, slots := 0, locals := 147 }
def fX11_blinds_76 (k28 : GS → Int32 → Int32 → Int32 → Option (Unit × GS)) : Nat → GS → Int32 → Int32 → Int32 → Int32 → Option (Unit × GS)
  | 0, _, _, _, _, _ => none
  | n + 1, S, a1, a2, a3, a4 => (if (S.1 54 33) ≤ a4 then glet (a3 + (1 : Int32)) fun v2 => (k28 S a1 a2 v2) else (if gib a3 12 = true then (if (((S.1 80 a3.toNatClampNeg) >>> (a4 &&& 31)) &&& (1 : Int32)) = (1 : Int32) then gbd (fX11_forgets S a2 a3 a4 a1) fun r7 S8 => glet (a4 + (1 : Int32)) fun v9 => (fX11_blinds_76 k28 n S8 a1 a2 a3 v9) else glet (a4 + (1 : Int32)) fun v5 => (fX11_blinds_76 k28 n S a1 a2 a3 v5)) else none))
set_option maxRecDepth 100000 in
set_option maxHeartbeats 4000000 in
theorem wX11_blinds_76 {p : Program} {l : Launch} {e : Env} {s : State} {m : MethodId} {args : Array Value} {below : List Frame} {meth : Method} {c : Code} {E : GE} {res : (Unit × GS)} {k28 : GS → Int32 → Int32 → Int32 → Option (Unit × GS)} (hc : GM E p s m args meth c RX11 cX11_blinds 5 none) (hk28 : ∀ (S : GS) (a1 : Int32) (a2 : Int32) (a3 : Int32) (H : Heap) (locs : List Loc) (ls : Array Slot), lv_has ls 5 [(0, gR E 54), (1, .int a1), (2, .int a2), (3, .int a3)] → GX E S H locs → k28 S a1 a2 a3 = some res → W p l e rmX11_blinds s m args below meth c H locs 0 0 (gZ E below args s none res.2) (F0 m 28 ls [])) : ∀ (n : Nat), ∀ (S : GS) (a1 : Int32) (a2 : Int32) (a3 : Int32) (a4 : Int32) (H : Heap) (locs : List Loc) (ls : Array Slot), lv_has ls 5 [(0, gR E 54), (1, .int a1), (2, .int a2), (3, .int a3), (4, .int a4)] → GX E S H locs → fX11_blinds_76 k28 n S a1 a2 a3 a4 = some res → W p l e rmX11_blinds s m args below meth c H locs 0 0 (gZ E below args s none res.2) (F0 m 76 ls []) := by
  obtain ⟨hx, hb, -, -, -, hown, hts, -, -⟩ := id hc
  intro n
  induction n with
  | zero => intro S a1 a2 a3 a4 H locs ls hl hG h; cases h
  | succ n ih =>
    intro S a1 a2 a3 a4 H locs ls hl hG h
    rw [fX11_blinds_76] at h
    refine lv_iload hx hb dX11_blinds_76 (lv_at hl 4 rfl) ?_
    refine lv_aload_n hx hb dX11_blinds_78 rfl (lv_at hl 0 rfl) ?_
    refine g_getI hc hG 54 flX11_267 rfl rfl dX11_blinds_79 ?_
    refine lv_icmp_ge (tgt := 115) hx hb dX11_blinds_82 (by decide) (fun c1 => ?_) (fun c1 => ?_)
    · have h := g_pos c1 h
      obtain ⟨v2, ev2⟩ : ∃ y : Int32, y = (a3 + (1 : Int32)) := ⟨_, rfl⟩
      have h := g_let ev2 h
      refine lv_iinc (v := v2) (lv' := [(3, .int v2), (0, gR E 54), (1, .int a1), (2, .int a2), (4, .int a4)]) hx hb dX11_blinds_115 hl (k := 3) rfl (by rw [ev2]; rfl) (by decide) rfl (fun ls hl => ?_)
      refine lv_goto (tgt := 28) hx hb dX11_blinds_118 (by decide) ?_
      exact hk28 S a1 a2 v2 _ _ _ (lv_sub hl [1, 2, 3, 0] rfl) hG h
    · have h := g_neg c1 h
      refine lv_aload_n hx hb dX11_blinds_85 rfl (lv_at hl 0 rfl) ?_
      refine g_getR hc hG 54 80 flX11_94 rfl rfl rfl dX11_blinds_86 ?_
      refine lv_iload_n hx hb dX11_blinds_89 rfl (lv_at hl 3 rfl) ?_
      obtain ⟨hi3, h⟩ := g_if h
      refine g_iald hc hG 80 12 (a3.toNatClampNeg) rfl rfl hi3 rfl dX11_blinds_90 ?_
      refine lv_iload hx hb dX11_blinds_91 (lv_at hl 4 rfl) ?_
      refine lv_ishr hx hb dX11_blinds_93 ?_
      refine lv_iconst (v := (1 : Int32)) hx hb dX11_blinds_94 (by decide) ?_
      refine lv_iand hx hb dX11_blinds_95 ?_
      refine lv_iconst (v := (1 : Int32)) hx hb dX11_blinds_96 (by decide) ?_
      refine lv_icmp_ne (tgt := 109) hx hb dX11_blinds_97 (by decide) (fun c4 => ?_) (fun c4 => ?_)
      · have h := g_neg c4 h
        obtain ⟨v5, ev5⟩ : ∃ y : Int32, y = (a4 + (1 : Int32)) := ⟨_, rfl⟩
        have h := g_let ev5 h
        refine lv_iinc (v := v5) (lv' := [(4, .int v5), (0, gR E 54), (1, .int a1), (2, .int a2), (3, .int a3)]) hx hb dX11_blinds_109 hl (k := 4) rfl (by rw [ev5]; rfl) (by decide) rfl (fun ls hl => ?_)
        refine lv_goto (tgt := 76) hx hb dX11_blinds_112 (by decide) ?_
        exact ih S a1 a2 a3 v5 _ _ _ (lv_sub hl [1, 2, 3, 4, 0] rfl) hG h
      · have h := g_pos c4 h
        refine lv_aload_n hx hb dX11_blinds_100 rfl (lv_at hl 0 rfl) ?_
        refine lv_iload_n hx hb dX11_blinds_101 rfl (lv_at hl 2 rfl) ?_
        refine lv_iload_n hx hb dX11_blinds_102 rfl (lv_at hl 3 rfl) ?_
        refine lv_iload hx hb dX11_blinds_103 (lv_at hl 4 rfl) ?_
        refine lv_iload_n hx hb dX11_blinds_105 rfl (lv_at hl 1 rfl) ?_
        obtain ⟨r7, S8, hm6, h⟩ := g_bd h
        refine g_callVv (As := [.int a2, .int a3, .int a4, .int a1]) hc hG (mX11_forgets l E hm6) mlX11_345 mcX11_forgets miX11_forgets rfl rfl rfl rfl hl.1 rfl rfl ⟨by decide, by decide⟩ (Nat.le_of_ble_eq_true rfl) ⟨by decide, by decide⟩ dX11_blinds_106 rfl (fun H locs hG => ?_)
        obtain ⟨v9, ev9⟩ : ∃ y : Int32, y = (a4 + (1 : Int32)) := ⟨_, rfl⟩
        have h := g_let ev9 h
        refine lv_iinc (v := v9) (lv' := [(4, .int v9), (0, gR E 54), (1, .int a1), (2, .int a2), (3, .int a3)]) hx hb dX11_blinds_109 hl (k := 4) rfl (by rw [ev9]; rfl) (by decide) rfl (fun ls hl => ?_)
        refine lv_goto (tgt := 76) hx hb dX11_blinds_112 (by decide) ?_
        exact ih S8 a1 a2 a3 v9 _ _ _ (lv_sub hl [1, 2, 3, 4, 0] rfl) hG h
def fX11_blinds_28 : Nat → GS → Int32 → Int32 → Int32 → Option (Unit × GS)
  | 0, _, _, _, _ => none
  | n + 1, S, a1, a2, a3 => (if (S.1 54 33) ≤ a3 then (some ((), S)) else (if gib a3 12 = true then (if (S.1 79 a3.toNatClampNeg) = a3 then (if (S.1 80 a3.toNatClampNeg) = 0 then glet (a3 + (1 : Int32)) fun v6 => (fX11_blinds_28 n S a1 a2 v6) else (if gib a2 32 = true then gbv (fX11_isHeld S a2 a3 (S.1 69 a2.toNatClampNeg)) fun r9 => (if r9 = 0 then glet (a3 + (1 : Int32)) fun v12 => (fX11_blinds_28 n S a1 a2 v12) else glet (0 : Int32) fun v11 => (fX11_blinds_76 (fX11_blinds_28 n) FU S a1 a2 a3 v11)) else none)) else glet (a3 + (1 : Int32)) fun v4 => (fX11_blinds_28 n S a1 a2 v4)) else none))
set_option maxRecDepth 100000 in
set_option maxHeartbeats 4000000 in
theorem wX11_blinds_28 {p : Program} {l : Launch} {e : Env} {s : State} {m : MethodId} {args : Array Value} {below : List Frame} {meth : Method} {c : Code} {E : GE} {res : (Unit × GS)} (hc : GM E p s m args meth c RX11 cX11_blinds 5 none) : ∀ (n : Nat), ∀ (S : GS) (a1 : Int32) (a2 : Int32) (a3 : Int32) (H : Heap) (locs : List Loc) (ls : Array Slot), lv_has ls 5 [(0, gR E 54), (1, .int a1), (2, .int a2), (3, .int a3)] → GX E S H locs → fX11_blinds_28 n S a1 a2 a3 = some res → W p l e rmX11_blinds s m args below meth c H locs 0 0 (gZ E below args s none res.2) (F0 m 28 ls []) := by
  obtain ⟨hx, hb, -, -, -, hown, hts, -, -⟩ := id hc
  intro n
  induction n with
  | zero => intro S a1 a2 a3 H locs ls hl hG h; cases h
  | succ n ih =>
    intro S a1 a2 a3 H locs ls hl hG h
    rw [fX11_blinds_28] at h
    refine lv_iload_n hx hb dX11_blinds_28 rfl (lv_at hl 3 rfl) ?_
    refine lv_aload_n hx hb dX11_blinds_29 rfl (lv_at hl 0 rfl) ?_
    refine g_getI hc hG 54 flX11_267 rfl rfl dX11_blinds_30 ?_
    refine lv_icmp_ge (tgt := 121) hx hb dX11_blinds_33 (by decide) (fun c1 => ?_) (fun c1 => ?_)
    · have h := g_pos c1 h
      exact g_vret hc hG dX11_blinds_121 h
    · have h := g_neg c1 h
      refine lv_aload_n hx hb dX11_blinds_36 rfl (lv_at hl 0 rfl) ?_
      refine g_getR hc hG 54 79 flX11_91 rfl rfl rfl dX11_blinds_37 ?_
      refine lv_iload_n hx hb dX11_blinds_40 rfl (lv_at hl 3 rfl) ?_
      obtain ⟨hi2, h⟩ := g_if h
      refine g_iald hc hG 79 12 (a3.toNatClampNeg) rfl rfl hi2 rfl dX11_blinds_41 ?_
      refine lv_iload_n hx hb dX11_blinds_42 rfl (lv_at hl 3 rfl) ?_
      refine lv_icmp_ne (tgt := 115) hx hb dX11_blinds_43 (by decide) (fun c3 => ?_) (fun c3 => ?_)
      · have h := g_neg c3 h
        obtain ⟨v4, ev4⟩ : ∃ y : Int32, y = (a3 + (1 : Int32)) := ⟨_, rfl⟩
        have h := g_let ev4 h
        refine lv_iinc (v := v4) (lv' := [(3, .int v4), (0, gR E 54), (1, .int a1), (2, .int a2)]) hx hb dX11_blinds_115 hl (k := 3) rfl (by rw [ev4]; rfl) (by decide) rfl (fun ls hl => ?_)
        refine lv_goto (tgt := 28) hx hb dX11_blinds_118 (by decide) ?_
        exact ih S a1 a2 v4 _ _ _ (lv_sub hl [1, 2, 3, 0] rfl) hG h
      · have h := g_pos c3 h
        refine lv_aload_n hx hb dX11_blinds_46 rfl (lv_at hl 0 rfl) ?_
        refine g_getR hc hG 54 80 flX11_94 rfl rfl rfl dX11_blinds_47 ?_
        refine lv_iload_n hx hb dX11_blinds_50 rfl (lv_at hl 3 rfl) ?_
        refine g_iald hc hG 80 12 (a3.toNatClampNeg) rfl rfl hi2 rfl dX11_blinds_51 ?_
        refine lv_if_eq (tgt := 115) hx hb dX11_blinds_52 (by decide) (fun c5 => ?_) (fun c5 => ?_)
        · have h := g_pos c5 h
          obtain ⟨v6, ev6⟩ : ∃ y : Int32, y = (a3 + (1 : Int32)) := ⟨_, rfl⟩
          have h := g_let ev6 h
          refine lv_iinc (v := v6) (lv' := [(3, .int v6), (0, gR E 54), (1, .int a1), (2, .int a2)]) hx hb dX11_blinds_115 hl (k := 3) rfl (by rw [ev6]; rfl) (by decide) rfl (fun ls hl => ?_)
          refine lv_goto (tgt := 28) hx hb dX11_blinds_118 (by decide) ?_
          exact ih S a1 a2 v6 _ _ _ (lv_sub hl [1, 2, 3, 0] rfl) hG h
        · have h := g_neg c5 h
          refine lv_aload_n hx hb dX11_blinds_55 rfl (lv_at hl 0 rfl) ?_
          refine lv_iload_n hx hb dX11_blinds_56 rfl (lv_at hl 2 rfl) ?_
          refine lv_iload_n hx hb dX11_blinds_57 rfl (lv_at hl 3 rfl) ?_
          refine lv_aload_n hx hb dX11_blinds_58 rfl (lv_at hl 0 rfl) ?_
          refine g_getR hc hG 54 69 flX11_61 rfl rfl rfl dX11_blinds_59 ?_
          refine lv_iload_n hx hb dX11_blinds_62 rfl (lv_at hl 2 rfl) ?_
          obtain ⟨hi7, h⟩ := g_if h
          refine g_iald hc hG 69 32 (a2.toNatClampNeg) rfl rfl hi7 rfl dX11_blinds_63 ?_
          obtain ⟨r9, hm8, h⟩ := g_bv h
          refine g_callVi (As := [.int a2, .int a3, .int (S.1 69 a2.toNatClampNeg)]) hc hG (mX11_isHeld l E hm8) mlX11_332 mcX11_isHeld miX11_isHeld rfl rfl rfl rfl hl.1 rfl rfl ⟨by decide, by decide⟩ (Nat.le_of_ble_eq_true rfl) ⟨by decide, by decide⟩ dX11_blinds_64 rfl (fun H locs hG => ?_)
          refine lv_if_ne (tgt := 73) hx hb dX11_blinds_67 (by decide) (fun c10 => ?_) (fun c10 => ?_)
          · have h := g_neg c10 h
            refine lv_iconst (v := (0 : Int32)) hx hb dX11_blinds_73 (by decide) ?_
            refine lv_topi (fun v11 ev11 => ?_)
            have h := g_let ev11 h
            refine lv_istore (lv' := [(4, .int v11), (0, gR E 54), (1, .int a1), (2, .int a2), (3, .int a3)]) hx hb dX11_blinds_74 hl (by decide) rfl (fun ls hl => ?_)
            exact wX11_blinds_76 hc ih FU S a1 a2 a3 v11 _ _ _ (lv_sub hl [1, 2, 3, 4, 0] rfl) hG h
          · have h := g_pos c10 h
            refine lv_goto (tgt := 115) hx hb dX11_blinds_70 (by decide) ?_
            obtain ⟨v12, ev12⟩ : ∃ y : Int32, y = (a3 + (1 : Int32)) := ⟨_, rfl⟩
            have h := g_let ev12 h
            refine lv_iinc (v := v12) (lv' := [(3, .int v12), (0, gR E 54), (1, .int a1), (2, .int a2)]) hx hb dX11_blinds_115 hl (k := 3) rfl (by rw [ev12]; rfl) (by decide) rfl (fun ls hl => ?_)
            refine lv_goto (tgt := 28) hx hb dX11_blinds_118 (by decide) ?_
            exact ih S a1 a2 v12 _ _ _ (lv_sub hl [1, 2, 3, 0] rfl) hG h
def fX11_blinds (S : GS) (a1 : Int32) : Option (Unit × GS) := (if gib a1 32 = true then glet (S.1 81 a1.toNatClampNeg) fun v2 => (if gib v2 32 = true then glet (gsi S 83 (v2.toNatClampNeg) (0 : Int32)) fun S4 => glet (gsi S4 84 (v2.toNatClampNeg) (0 : Int32)) fun S5 => gbd (fX11_undoes S5 a1) fun r7 S8 => glet (0 : Int32) fun v9 => (fX11_blinds_28 FU S8 a1 v2 v9) else none) else none)
set_option maxRecDepth 100000 in
set_option maxHeartbeats 4000000 in
theorem wX11_blinds_0 {p : Program} {l : Launch} {e : Env} {s : State} {m : MethodId} {args : Array Value} {below : List Frame} {meth : Method} {c : Code} {E : GE} {res : (Unit × GS)} (hc : GM E p s m args meth c RX11 cX11_blinds 5 none) : ∀ (S : GS) (a1 : Int32) (H : Heap) (locs : List Loc) (ls : Array Slot), lv_has ls 5 [(0, gR E 54), (1, .int a1)] → GX E S H locs → fX11_blinds S a1 = some res → W p l e rmX11_blinds s m args below meth c H locs 0 0 (gZ E below args s none res.2) (F0 m 0 ls []) := by
  obtain ⟨hx, hb, -, -, -, hown, hts, -, -⟩ := id hc
  intro S a1 H locs ls hl hG h
  unfold fX11_blinds at h
  refine lv_aload_n hx hb dX11_blinds_0 rfl (lv_at hl 0 rfl) ?_
  refine g_getR hc hG 54 81 flX11_97 rfl rfl rfl dX11_blinds_1 ?_
  refine lv_iload_n hx hb dX11_blinds_4 rfl (lv_at hl 1 rfl) ?_
  obtain ⟨hi1, h⟩ := g_if h
  refine g_iald hc hG 81 32 (a1.toNatClampNeg) rfl rfl hi1 rfl dX11_blinds_5 ?_
  refine lv_topi (fun v2 ev2 => ?_)
  have h := g_let ev2 h
  refine lv_istore_n (lv' := [(2, .int v2), (0, gR E 54), (1, .int a1)]) hx hb dX11_blinds_6 rfl hl (by decide) rfl (fun ls hl => ?_)
  refine lv_aload_n hx hb dX11_blinds_7 rfl (lv_at hl 1 rfl) ?_
  refine g_getR hc hG 54 83 flX11_103 rfl rfl rfl dX11_blinds_8 ?_
  refine lv_iload_n hx hb dX11_blinds_11 rfl (lv_at hl 0 rfl) ?_
  refine lv_iconst (v := (0 : Int32)) hx hb dX11_blinds_12 (by decide) ?_
  obtain ⟨hi3, h⟩ := g_if h
  refine g_iast hc hG 83 32 (v2.toNatClampNeg) rfl rfl hi3 rfl dX11_blinds_13 (fun S4 H locs eS4 hG => ?_)
  have h := g_let eS4 h
  refine lv_aload_n hx hb dX11_blinds_14 rfl (lv_at hl 1 rfl) ?_
  refine g_getR hc hG 54 84 flX11_106 rfl rfl rfl dX11_blinds_15 ?_
  refine lv_iload_n hx hb dX11_blinds_18 rfl (lv_at hl 0 rfl) ?_
  refine lv_iconst (v := (0 : Int32)) hx hb dX11_blinds_19 (by decide) ?_
  refine g_iast hc hG 84 32 (v2.toNatClampNeg) rfl rfl hi3 rfl dX11_blinds_20 (fun S5 H locs eS5 hG => ?_)
  have h := g_let eS5 h
  refine lv_aload_n hx hb dX11_blinds_21 rfl (lv_at hl 1 rfl) ?_
  refine lv_iload_n hx hb dX11_blinds_22 rfl (lv_at hl 2 rfl) ?_
  obtain ⟨r7, S8, hm6, h⟩ := g_bd h
  refine g_callVv (As := [.int a1]) hc hG (mX11_undoes l E hm6) mlX11_342 mcX11_undoes miX11_undoes rfl rfl rfl rfl hl.1 rfl rfl ⟨by decide, by decide⟩ (Nat.le_of_ble_eq_true rfl) ⟨by decide, by decide⟩ dX11_blinds_23 rfl (fun H locs hG => ?_)
  refine lv_iconst (v := (0 : Int32)) hx hb dX11_blinds_26 (by decide) ?_
  refine lv_topi (fun v9 ev9 => ?_)
  have h := g_let ev9 h
  refine lv_istore_n (lv' := [(3, .int v9), (2, .int v2), (0, gR E 54), (1, .int a1)]) hx hb dX11_blinds_27 rfl hl (by decide) rfl (fun ls hl => ?_)
  exact wX11_blinds_28 hc FU S8 a1 v2 v9 _ _ _ (lv_sub hl [2, 3, 1, 0] rfl) hG h
theorem mX11_blinds (l : Launch) (E : GE) {S : GS} {a1 : Int32} {res : (Unit × GS)} (h : fX11_blinds S a1 = some res) : gMet l E yX11_blinds cX11_blinds 5 none rmX11_blinds [gR E 54, .int a1] S none res.2 :=
  g_met (by decide) (Nat.le_of_ble_eq_true rfl) rfl fun p e s m below meth c H ls hc hG hl => wX11_blinds_0 hc S a1 H [] ls hl hG h
abbrev rmX11_knows : Room := { frames := 7, cells := 0, slots := 0, locals := 171 }
def fX11_knows_182 (k84 : GS → Int32 → Int32 → Int32 → Option (Unit × GS)) (S : GS) (t1 : Int32) (a1 : Int32) (a2 : Int32) (a3 : Int32) : Option (Unit × GS) := (if gib t1 120 = true then glet (gsi S 78 (t1.toNatClampNeg) (vp_nar .boolean (0 : Int32))) fun S2 => glet (a3 + (1 : Int32)) fun v3 => (k84 S2 a1 a2 v3) else none)
set_option maxRecDepth 100000 in
set_option maxHeartbeats 4000000 in
theorem wX11_knows_182 {p : Program} {l : Launch} {e : Env} {s : State} {m : MethodId} {args : Array Value} {below : List Frame} {meth : Method} {c : Code} {E : GE} {res : (Unit × GS)} {k84 : GS → Int32 → Int32 → Int32 → Option (Unit × GS)} (hc : GM E p s m args meth c RX11 cX11_knows 5 none) (hk84 : ∀ (S : GS) (a1 : Int32) (a2 : Int32) (a3 : Int32) (H : Heap) (locs : List Loc) (ls : Array Slot), lv_has ls 5 [(0, gR E 54), (1, .int a1), (2, .int a2), (3, .int a3)] → GX E S H locs → k84 S a1 a2 a3 = some res → W p l e rmX11_knows s m args below meth c H locs 0 0 (gZ E below args s none res.2) (F0 m 84 ls [])) : ∀ (S : GS) (t1 : Int32) (a1 : Int32) (a2 : Int32) (a3 : Int32) (H : Heap) (locs : List Loc) (ls : Array Slot), lv_has ls 5 [(0, gR E 54), (1, .int a1), (2, .int a2), (3, .int a3)] → GX E S H locs → fX11_knows_182 k84 S t1 a1 a2 a3 = some res → W p l e rmX11_knows s m args below meth c H locs 0 0 (gZ E below args s none res.2) (F0 m 182 ls [.int t1, gR E 78]) := by
  obtain ⟨hx, hb, -, -, -, hown, hts, -, -⟩ := id hc
  intro S t1 a1 a2 a3 H locs ls hl hG h
  unfold fX11_knows_182 at h
  refine lv_iconst (v := (0 : Int32)) hx hb dX11_knows_182 (by decide) ?_
  obtain ⟨hi1, h⟩ := g_if h
  refine g_zast hc hG 78 120 (t1.toNatClampNeg) rfl rfl hi1 rfl dX11_knows_183 (fun S2 H locs eS2 hG => ?_)
  have h := g_let eS2 h
  obtain ⟨v3, ev3⟩ : ∃ y : Int32, y = (a3 + (1 : Int32)) := ⟨_, rfl⟩
  have h := g_let ev3 h
  refine lv_iinc (v := v3) (lv' := [(3, .int v3), (0, gR E 54), (1, .int a1), (2, .int a2)]) hx hb dX11_knows_184 hl (k := 3) rfl (by rw [ev3]; rfl) (by decide) rfl (fun ls hl => ?_)
  refine lv_goto (tgt := 84) hx hb dX11_knows_187 (by decide) ?_
  exact hk84 S2 a1 a2 v3 _ _ _ (lv_sub hl [1, 2, 3, 0] rfl) hG h
def fX11_knows_147 (k84 : GS → Int32 → Int32 → Int32 → Option (Unit × GS)) (S : GS) (t0 : Int32) (a1 : Int32) (a2 : Int32) (a3 : Int32) : Option (Unit × GS) := (if gib a3 120 = true then (if a1 < (S.1 72 a3.toNatClampNeg) then (fX11_knows_182 k84 S a3 a1 a2 a3) else (if (S.1 77 a3.toNatClampNeg) = 0 then (if t0 = 0 then glet (gsi S 78 (a3.toNatClampNeg) (vp_nar .boolean (1 : Int32))) fun S5 => glet (a3 + (1 : Int32)) fun v6 => (k84 S5 a1 a2 v6) else (fX11_knows_182 k84 S a3 a1 a2 a3)) else (fX11_knows_182 k84 S a3 a1 a2 a3))) else none)
set_option maxRecDepth 100000 in
set_option maxHeartbeats 4000000 in
theorem wX11_knows_147 {p : Program} {l : Launch} {e : Env} {s : State} {m : MethodId} {args : Array Value} {below : List Frame} {meth : Method} {c : Code} {E : GE} {res : (Unit × GS)} {k84 : GS → Int32 → Int32 → Int32 → Option (Unit × GS)} (hc : GM E p s m args meth c RX11 cX11_knows 5 none) (hk84 : ∀ (S : GS) (a1 : Int32) (a2 : Int32) (a3 : Int32) (H : Heap) (locs : List Loc) (ls : Array Slot), lv_has ls 5 [(0, gR E 54), (1, .int a1), (2, .int a2), (3, .int a3)] → GX E S H locs → k84 S a1 a2 a3 = some res → W p l e rmX11_knows s m args below meth c H locs 0 0 (gZ E below args s none res.2) (F0 m 84 ls [])) : ∀ (S : GS) (t0 : Int32) (a1 : Int32) (a2 : Int32) (a3 : Int32) (H : Heap) (locs : List Loc) (ls : Array Slot), lv_has ls 5 [(0, gR E 54), (1, .int a1), (2, .int a2), (3, .int a3)] → GX E S H locs → fX11_knows_147 k84 S t0 a1 a2 a3 = some res → W p l e rmX11_knows s m args below meth c H locs 0 0 (gZ E below args s none res.2) (F0 m 147 ls [.int t0]) := by
  obtain ⟨hx, hb, -, -, -, hown, hts, -, -⟩ := id hc
  intro S t0 a1 a2 a3 H locs ls hl hG h
  unfold fX11_knows_147 at h
  refine lv_istore (lv' := [(4, .int t0), (0, gR E 54), (1, .int a1), (2, .int a2), (3, .int a3)]) hx hb dX11_knows_147 hl (by decide) rfl (fun ls hl => ?_)
  refine lv_aload_n hx hb dX11_knows_149 rfl (lv_at hl 1 rfl) ?_
  refine g_getR hc hG 54 78 flX11_88 rfl rfl rfl dX11_knows_150 ?_
  refine lv_iload_n hx hb dX11_knows_153 rfl (lv_at hl 4 rfl) ?_
  refine lv_aload_n hx hb dX11_knows_154 rfl (lv_at hl 1 rfl) ?_
  refine g_getR hc hG 54 72 flX11_70 rfl rfl rfl dX11_knows_155 ?_
  refine lv_iload_n hx hb dX11_knows_158 rfl (lv_at hl 4 rfl) ?_
  obtain ⟨hi1, h⟩ := g_if h
  refine g_iald hc hG 72 120 (a3.toNatClampNeg) rfl rfl hi1 rfl dX11_knows_159 ?_
  refine lv_iload_n hx hb dX11_knows_160 rfl (lv_at hl 2 rfl) ?_
  refine lv_icmp_gt (tgt := 182) hx hb dX11_knows_161 (by decide) (fun c2 => ?_) (fun c2 => ?_)
  · have h := g_pos c2 h
    exact wX11_knows_182 hc hk84 S a3 a1 a2 a3 _ _ _ (lv_sub hl [1, 2, 3, 4] rfl) hG h
  · have h := g_neg c2 h
    refine lv_aload_n hx hb dX11_knows_164 rfl (lv_at hl 1 rfl) ?_
    refine g_getR hc hG 54 77 flX11_85 rfl rfl rfl dX11_knows_165 ?_
    refine lv_iload_n hx hb dX11_knows_168 rfl (lv_at hl 4 rfl) ?_
    refine g_zald hc hG 77 120 (a3.toNatClampNeg) rfl rfl hi1 rfl dX11_knows_169 ?_
    refine lv_if_ne (tgt := 182) hx hb dX11_knows_170 (by decide) (fun c3 => ?_) (fun c3 => ?_)
    · have h := g_neg c3 h
      exact wX11_knows_182 hc hk84 S a3 a1 a2 a3 _ _ _ (lv_sub hl [1, 2, 3, 4] rfl) hG h
    · have h := g_pos c3 h
      refine lv_iload hx hb dX11_knows_173 (lv_at hl 0 rfl) ?_
      refine lv_if_ne (tgt := 182) hx hb dX11_knows_175 (by decide) (fun c4 => ?_) (fun c4 => ?_)
      · have h := g_neg c4 h
        exact wX11_knows_182 hc hk84 S a3 a1 a2 a3 _ _ _ (lv_sub hl [1, 2, 3, 4] rfl) hG h
      · have h := g_pos c4 h
        refine lv_iconst (v := (1 : Int32)) hx hb dX11_knows_178 (by decide) ?_
        refine lv_goto (tgt := 183) hx hb dX11_knows_179 (by decide) ?_
        refine g_zast hc hG 78 120 (a3.toNatClampNeg) rfl rfl hi1 rfl dX11_knows_183 (fun S5 H locs eS5 hG => ?_)
        have h := g_let eS5 h
        obtain ⟨v6, ev6⟩ : ∃ y : Int32, y = (a3 + (1 : Int32)) := ⟨_, rfl⟩
        have h := g_let ev6 h
        refine lv_iinc (v := v6) (lv' := [(3, .int v6), (4, .int t0), (0, gR E 54), (1, .int a1), (2, .int a2)]) hx hb dX11_knows_184 hl (k := 4) rfl (by rw [ev6]; rfl) (by decide) rfl (fun ls hl => ?_)
        refine lv_goto (tgt := 84) hx hb dX11_knows_187 (by decide) ?_
        exact hk84 S5 a1 a2 v6 _ _ _ (lv_sub hl [2, 3, 4, 0] rfl) hG h
def fX11_knows_142 (k84 : GS → Int32 → Int32 → Int32 → Option (Unit × GS)) (S : GS) (a1 : Int32) (a2 : Int32) (a3 : Int32) : Option (Unit × GS) := (fX11_knows_147 k84 S (1 : Int32) a1 a2 a3)
set_option maxRecDepth 100000 in
set_option maxHeartbeats 4000000 in
theorem wX11_knows_142 {p : Program} {l : Launch} {e : Env} {s : State} {m : MethodId} {args : Array Value} {below : List Frame} {meth : Method} {c : Code} {E : GE} {res : (Unit × GS)} {k84 : GS → Int32 → Int32 → Int32 → Option (Unit × GS)} (hc : GM E p s m args meth c RX11 cX11_knows 5 none) (hk84 : ∀ (S : GS) (a1 : Int32) (a2 : Int32) (a3 : Int32) (H : Heap) (locs : List Loc) (ls : Array Slot), lv_has ls 5 [(0, gR E 54), (1, .int a1), (2, .int a2), (3, .int a3)] → GX E S H locs → k84 S a1 a2 a3 = some res → W p l e rmX11_knows s m args below meth c H locs 0 0 (gZ E below args s none res.2) (F0 m 84 ls [])) : ∀ (S : GS) (a1 : Int32) (a2 : Int32) (a3 : Int32) (H : Heap) (locs : List Loc) (ls : Array Slot), lv_has ls 5 [(0, gR E 54), (1, .int a1), (2, .int a2), (3, .int a3)] → GX E S H locs → fX11_knows_142 k84 S a1 a2 a3 = some res → W p l e rmX11_knows s m args below meth c H locs 0 0 (gZ E below args s none res.2) (F0 m 142 ls []) := by
  obtain ⟨hx, hb, -, -, -, hown, hts, -, -⟩ := id hc
  intro S a1 a2 a3 H locs ls hl hG h
  unfold fX11_knows_142 at h
  refine lv_iconst (v := (1 : Int32)) hx hb dX11_knows_142 (by decide) ?_
  refine lv_goto (tgt := 147) hx hb dX11_knows_143 (by decide) ?_
  exact wX11_knows_147 hc hk84 S (1 : Int32) a1 a2 a3 _ _ _ (lv_sub hl [0, 1, 2, 3] rfl) hG h
def fX11_knows_146 (k84 : GS → Int32 → Int32 → Int32 → Option (Unit × GS)) (S : GS) (a1 : Int32) (a2 : Int32) (a3 : Int32) : Option (Unit × GS) := (fX11_knows_147 k84 S (0 : Int32) a1 a2 a3)
set_option maxRecDepth 100000 in
set_option maxHeartbeats 4000000 in
theorem wX11_knows_146 {p : Program} {l : Launch} {e : Env} {s : State} {m : MethodId} {args : Array Value} {below : List Frame} {meth : Method} {c : Code} {E : GE} {res : (Unit × GS)} {k84 : GS → Int32 → Int32 → Int32 → Option (Unit × GS)} (hc : GM E p s m args meth c RX11 cX11_knows 5 none) (hk84 : ∀ (S : GS) (a1 : Int32) (a2 : Int32) (a3 : Int32) (H : Heap) (locs : List Loc) (ls : Array Slot), lv_has ls 5 [(0, gR E 54), (1, .int a1), (2, .int a2), (3, .int a3)] → GX E S H locs → k84 S a1 a2 a3 = some res → W p l e rmX11_knows s m args below meth c H locs 0 0 (gZ E below args s none res.2) (F0 m 84 ls [])) : ∀ (S : GS) (a1 : Int32) (a2 : Int32) (a3 : Int32) (H : Heap) (locs : List Loc) (ls : Array Slot), lv_has ls 5 [(0, gR E 54), (1, .int a1), (2, .int a2), (3, .int a3)] → GX E S H locs → fX11_knows_146 k84 S a1 a2 a3 = some res → W p l e rmX11_knows s m args below meth c H locs 0 0 (gZ E below args s none res.2) (F0 m 146 ls []) := by
  obtain ⟨hx, hb, -, -, -, hown, hts, -, -⟩ := id hc
  intro S a1 a2 a3 H locs ls hl hG h
  unfold fX11_knows_146 at h
  refine lv_iconst (v := (0 : Int32)) hx hb dX11_knows_146 (by decide) ?_
  exact wX11_knows_147 hc hk84 S (0 : Int32) a1 a2 a3 _ _ _ (lv_sub hl [0, 1, 2, 3] rfl) hG h
def fX11_knows_112 (k84 : GS → Int32 → Int32 → Int32 → Option (Unit × GS)) (S : GS) (a1 : Int32) (a2 : Int32) (a3 : Int32) : Option (Unit × GS) := (if gib a3 120 = true then (if (S.1 71 a3.toNatClampNeg) < (2 : Int32) then (fX11_knows_146 k84 S a1 a2 a3) else (if (4 : Int32) < (S.1 71 a3.toNatClampNeg) then (fX11_knows_146 k84 S a1 a2 a3) else (if (S.1 74 a3.toNatClampNeg) = a2 then (fX11_knows_142 k84 S a1 a2 a3) else (fX11_knows_146 k84 S a1 a2 a3)))) else none)
set_option maxRecDepth 100000 in
set_option maxHeartbeats 4000000 in
theorem wX11_knows_112 {p : Program} {l : Launch} {e : Env} {s : State} {m : MethodId} {args : Array Value} {below : List Frame} {meth : Method} {c : Code} {E : GE} {res : (Unit × GS)} {k84 : GS → Int32 → Int32 → Int32 → Option (Unit × GS)} (hc : GM E p s m args meth c RX11 cX11_knows 5 none) (hk84 : ∀ (S : GS) (a1 : Int32) (a2 : Int32) (a3 : Int32) (H : Heap) (locs : List Loc) (ls : Array Slot), lv_has ls 5 [(0, gR E 54), (1, .int a1), (2, .int a2), (3, .int a3)] → GX E S H locs → k84 S a1 a2 a3 = some res → W p l e rmX11_knows s m args below meth c H locs 0 0 (gZ E below args s none res.2) (F0 m 84 ls [])) : ∀ (S : GS) (a1 : Int32) (a2 : Int32) (a3 : Int32) (H : Heap) (locs : List Loc) (ls : Array Slot), lv_has ls 5 [(0, gR E 54), (1, .int a1), (2, .int a2), (3, .int a3)] → GX E S H locs → fX11_knows_112 k84 S a1 a2 a3 = some res → W p l e rmX11_knows s m args below meth c H locs 0 0 (gZ E below args s none res.2) (F0 m 112 ls []) := by
  obtain ⟨hx, hb, -, -, -, hown, hts, -, -⟩ := id hc
  intro S a1 a2 a3 H locs ls hl hG h
  unfold fX11_knows_112 at h
  refine lv_aload_n hx hb dX11_knows_112 rfl (lv_at hl 0 rfl) ?_
  refine g_getR hc hG 54 71 flX11_67 rfl rfl rfl dX11_knows_113 ?_
  refine lv_iload_n hx hb dX11_knows_116 rfl (lv_at hl 3 rfl) ?_
  obtain ⟨hi1, h⟩ := g_if h
  refine g_iald hc hG 71 120 (a3.toNatClampNeg) rfl rfl hi1 rfl dX11_knows_117 ?_
  refine lv_iconst (v := (2 : Int32)) hx hb dX11_knows_118 (by decide) ?_
  refine lv_icmp_lt (tgt := 146) hx hb dX11_knows_119 (by decide) (fun c2 => ?_) (fun c2 => ?_)
  · have h := g_pos c2 h
    exact wX11_knows_146 hc hk84 S a1 a2 a3 _ _ _ (lv_sub hl [0, 1, 2, 3] rfl) hG h
  · have h := g_neg c2 h
    refine lv_aload_n hx hb dX11_knows_122 rfl (lv_at hl 0 rfl) ?_
    refine g_getR hc hG 54 71 flX11_67 rfl rfl rfl dX11_knows_123 ?_
    refine lv_iload_n hx hb dX11_knows_126 rfl (lv_at hl 3 rfl) ?_
    refine g_iald hc hG 71 120 (a3.toNatClampNeg) rfl rfl hi1 rfl dX11_knows_127 ?_
    refine lv_iconst (v := (4 : Int32)) hx hb dX11_knows_128 (by decide) ?_
    refine lv_icmp_gt (tgt := 146) hx hb dX11_knows_129 (by decide) (fun c3 => ?_) (fun c3 => ?_)
    · have h := g_pos c3 h
      exact wX11_knows_146 hc hk84 S a1 a2 a3 _ _ _ (lv_sub hl [0, 1, 2, 3] rfl) hG h
    · have h := g_neg c3 h
      refine lv_aload_n hx hb dX11_knows_132 rfl (lv_at hl 0 rfl) ?_
      refine g_getR hc hG 54 74 flX11_76 rfl rfl rfl dX11_knows_133 ?_
      refine lv_iload_n hx hb dX11_knows_136 rfl (lv_at hl 3 rfl) ?_
      refine g_iald hc hG 74 120 (a3.toNatClampNeg) rfl rfl hi1 rfl dX11_knows_137 ?_
      refine lv_iload_n hx hb dX11_knows_138 rfl (lv_at hl 2 rfl) ?_
      refine lv_icmp_ne (tgt := 146) hx hb dX11_knows_139 (by decide) (fun c4 => ?_) (fun c4 => ?_)
      · have h := g_neg c4 h
        exact wX11_knows_146 hc hk84 S a1 a2 a3 _ _ _ (lv_sub hl [0, 1, 2, 3] rfl) hG h
      · have h := g_pos c4 h
        exact wX11_knows_142 hc hk84 S a1 a2 a3 _ _ _ (lv_sub hl [0, 1, 2, 3] rfl) hG h
def fX11_knows_290 (k201 : GS → Int32 → Int32 → Int32 → Option (Unit × GS)) (S : GS) (a1 : Int32) (a2 : Int32) (a3 : Int32) (a4 : Int32) : Option (Unit × GS) := (if gib a4 32 = true then glet (gsi S 81 (a4.toNatClampNeg) a3) fun S2 => glet (gsi S2 54 52 ((S2.1 54 52) + (1 : Int32))) fun S3 => glet (a3 + (1 : Int32)) fun v4 => (k201 S3 a1 a2 v4) else none)
set_option maxRecDepth 100000 in
set_option maxHeartbeats 4000000 in
theorem wX11_knows_290 {p : Program} {l : Launch} {e : Env} {s : State} {m : MethodId} {args : Array Value} {below : List Frame} {meth : Method} {c : Code} {E : GE} {res : (Unit × GS)} {k201 : GS → Int32 → Int32 → Int32 → Option (Unit × GS)} (hc : GM E p s m args meth c RX11 cX11_knows 5 none) (hk201 : ∀ (S : GS) (a1 : Int32) (a2 : Int32) (a3 : Int32) (H : Heap) (locs : List Loc) (ls : Array Slot), lv_has ls 5 [(0, gR E 54), (1, .int a1), (2, .int a2), (3, .int a3)] → GX E S H locs → k201 S a1 a2 a3 = some res → W p l e rmX11_knows s m args below meth c H locs 0 0 (gZ E below args s none res.2) (F0 m 201 ls [])) : ∀ (S : GS) (a1 : Int32) (a2 : Int32) (a3 : Int32) (a4 : Int32) (H : Heap) (locs : List Loc) (ls : Array Slot), lv_has ls 5 [(0, gR E 54), (1, .int a1), (2, .int a2), (3, .int a3), (4, .int a4)] → GX E S H locs → fX11_knows_290 k201 S a1 a2 a3 a4 = some res → W p l e rmX11_knows s m args below meth c H locs 0 0 (gZ E below args s none res.2) (F0 m 290 ls []) := by
  obtain ⟨hx, hb, -, -, -, hown, hts, -, -⟩ := id hc
  intro S a1 a2 a3 a4 H locs ls hl hG h
  unfold fX11_knows_290 at h
  refine lv_aload_n hx hb dX11_knows_290 rfl (lv_at hl 0 rfl) ?_
  refine g_getR hc hG 54 81 flX11_97 rfl rfl rfl dX11_knows_291 ?_
  refine lv_iload hx hb dX11_knows_294 (lv_at hl 4 rfl) ?_
  refine lv_iload_n hx hb dX11_knows_296 rfl (lv_at hl 3 rfl) ?_
  obtain ⟨hi1, h⟩ := g_if h
  refine g_iast hc hG 81 32 (a4.toNatClampNeg) rfl rfl hi1 rfl dX11_knows_297 (fun S2 H locs eS2 hG => ?_)
  have h := g_let eS2 h
  refine lv_aload_n hx hb dX11_knows_298 rfl (lv_at hl 0 rfl) ?_
  refine lv_dup hx hb dX11_knows_299 rfl ?_
  refine g_getI hc hG 54 flX11_302 rfl rfl dX11_knows_300 ?_
  refine lv_iconst (v := (1 : Int32)) hx hb dX11_knows_303 (by decide) ?_
  refine lv_iadd hx hb dX11_knows_304 ?_
  refine g_putI hc hG 54 fpX11_302 rfl rfl rfl rfl dX11_knows_305 (fun S3 H locs eS3 hG => ?_)
  have h := g_let eS3 h
  obtain ⟨v4, ev4⟩ : ∃ y : Int32, y = (a3 + (1 : Int32)) := ⟨_, rfl⟩
  have h := g_let ev4 h
  refine lv_iinc (v := v4) (lv' := [(3, .int v4), (0, gR E 54), (1, .int a1), (2, .int a2), (4, .int a4)]) hx hb dX11_knows_308 hl (k := 3) rfl (by rw [ev4]; rfl) (by decide) rfl (fun ls hl => ?_)
  refine lv_goto (tgt := 201) hx hb dX11_knows_311 (by decide) ?_
  exact hk201 S3 a1 a2 v4 _ _ _ (lv_sub hl [1, 2, 3, 0] rfl) hG h
def fX11_knows_240 (k201 : GS → Int32 → Int32 → Int32 → Option (Unit × GS)) : Nat → GS → Int32 → Int32 → Int32 → Int32 → Option (Unit × GS)
  | 0, _, _, _, _, _ => none
  | n + 1, S, a1, a2, a3, a4 => (if a4 ≤ 0 then (fX11_knows_290 k201 S a1 a2 a3 a4) else (if gib (a4 - (1 : Int32)) 32 = true then (if gib (S.1 81 ((a4 - (1 : Int32))).toNatClampNeg) 32 = true then (if gib a3 32 = true then (if (S.1 67 ((S.1 81 ((a4 - (1 : Int32))).toNatClampNeg)).toNatClampNeg) ≤ (S.1 67 a3.toNatClampNeg) then (fX11_knows_290 k201 S a1 a2 a3 a4) else (if gib a4 32 = true then glet (gsi S 81 (a4.toNatClampNeg) (S.1 81 ((a4 - (1 : Int32))).toNatClampNeg)) fun S7 => glet (a4 + (-1 : Int32)) fun v8 => (fX11_knows_240 k201 n S7 a1 a2 a3 v8) else none)) else none) else none) else none))
set_option maxRecDepth 100000 in
set_option maxHeartbeats 4000000 in
theorem wX11_knows_240 {p : Program} {l : Launch} {e : Env} {s : State} {m : MethodId} {args : Array Value} {below : List Frame} {meth : Method} {c : Code} {E : GE} {res : (Unit × GS)} {k201 : GS → Int32 → Int32 → Int32 → Option (Unit × GS)} (hc : GM E p s m args meth c RX11 cX11_knows 5 none) (hk201 : ∀ (S : GS) (a1 : Int32) (a2 : Int32) (a3 : Int32) (H : Heap) (locs : List Loc) (ls : Array Slot), lv_has ls 5 [(0, gR E 54), (1, .int a1), (2, .int a2), (3, .int a3)] → GX E S H locs → k201 S a1 a2 a3 = some res → W p l e rmX11_knows s m args below meth c H locs 0 0 (gZ E below args s none res.2) (F0 m 201 ls [])) : ∀ (n : Nat), ∀ (S : GS) (a1 : Int32) (a2 : Int32) (a3 : Int32) (a4 : Int32) (H : Heap) (locs : List Loc) (ls : Array Slot), lv_has ls 5 [(0, gR E 54), (1, .int a1), (2, .int a2), (3, .int a3), (4, .int a4)] → GX E S H locs → fX11_knows_240 k201 n S a1 a2 a3 a4 = some res → W p l e rmX11_knows s m args below meth c H locs 0 0 (gZ E below args s none res.2) (F0 m 240 ls []) := by
  obtain ⟨hx, hb, -, -, -, hown, hts, -, -⟩ := id hc
  intro n
  induction n with
  | zero => intro S a1 a2 a3 a4 H locs ls hl hG h; cases h
  | succ n ih =>
    intro S a1 a2 a3 a4 H locs ls hl hG h
    rw [fX11_knows_240] at h
    refine lv_iload hx hb dX11_knows_240 (lv_at hl 4 rfl) ?_
    refine lv_if_le (tgt := 290) hx hb dX11_knows_242 (by decide) (fun c1 => ?_) (fun c1 => ?_)
    · have h := g_pos c1 h
      exact wX11_knows_290 hc hk201 S a1 a2 a3 a4 _ _ _ (lv_sub hl [0, 1, 2, 3, 4] rfl) hG h
    · have h := g_neg c1 h
      refine lv_aload_n hx hb dX11_knows_245 rfl (lv_at hl 0 rfl) ?_
      refine g_getR hc hG 54 67 flX11_55 rfl rfl rfl dX11_knows_246 ?_
      refine lv_aload_n hx hb dX11_knows_249 rfl (lv_at hl 0 rfl) ?_
      refine g_getR hc hG 54 81 flX11_97 rfl rfl rfl dX11_knows_250 ?_
      refine lv_iload hx hb dX11_knows_253 (lv_at hl 4 rfl) ?_
      refine lv_iconst (v := (1 : Int32)) hx hb dX11_knows_255 (by decide) ?_
      refine lv_isub hx hb dX11_knows_256 ?_
      obtain ⟨hi2, h⟩ := g_if h
      refine g_iald hc hG 81 32 (((a4 - (1 : Int32))).toNatClampNeg) rfl rfl hi2 rfl dX11_knows_257 ?_
      obtain ⟨hi3, h⟩ := g_if h
      refine g_iald hc hG 67 32 (((S.1 81 ((a4 - (1 : Int32))).toNatClampNeg)).toNatClampNeg) rfl rfl hi3 rfl dX11_knows_258 ?_
      refine lv_aload_n hx hb dX11_knows_259 rfl (lv_at hl 0 rfl) ?_
      refine g_getR hc hG 54 67 flX11_55 rfl rfl rfl dX11_knows_260 ?_
      refine lv_iload_n hx hb dX11_knows_263 rfl (lv_at hl 3 rfl) ?_
      obtain ⟨hi4, h⟩ := g_if h
      refine g_iald hc hG 67 32 (a3.toNatClampNeg) rfl rfl hi4 rfl dX11_knows_264 ?_
      refine lv_icmp_le (tgt := 290) hx hb dX11_knows_265 (by decide) (fun c5 => ?_) (fun c5 => ?_)
      · have h := g_pos c5 h
        exact wX11_knows_290 hc hk201 S a1 a2 a3 a4 _ _ _ (lv_sub hl [0, 1, 2, 3, 4] rfl) hG h
      · have h := g_neg c5 h
        refine lv_aload_n hx hb dX11_knows_268 rfl (lv_at hl 0 rfl) ?_
        refine g_getR hc hG 54 81 flX11_97 rfl rfl rfl dX11_knows_269 ?_
        refine lv_iload hx hb dX11_knows_272 (lv_at hl 4 rfl) ?_
        refine lv_aload_n hx hb dX11_knows_274 rfl (lv_at hl 0 rfl) ?_
        refine g_getR hc hG 54 81 flX11_97 rfl rfl rfl dX11_knows_275 ?_
        refine lv_iload hx hb dX11_knows_278 (lv_at hl 4 rfl) ?_
        refine lv_iconst (v := (1 : Int32)) hx hb dX11_knows_280 (by decide) ?_
        refine lv_isub hx hb dX11_knows_281 ?_
        refine g_iald hc hG 81 32 (((a4 - (1 : Int32))).toNatClampNeg) rfl rfl hi2 rfl dX11_knows_282 ?_
        obtain ⟨hi6, h⟩ := g_if h
        refine g_iast hc hG 81 32 (a4.toNatClampNeg) rfl rfl hi6 rfl dX11_knows_283 (fun S7 H locs eS7 hG => ?_)
        have h := g_let eS7 h
        obtain ⟨v8, ev8⟩ : ∃ y : Int32, y = (a4 + (-1 : Int32)) := ⟨_, rfl⟩
        have h := g_let ev8 h
        refine lv_iinc (v := v8) (lv' := [(4, .int v8), (0, gR E 54), (1, .int a1), (2, .int a2), (3, .int a3)]) hx hb dX11_knows_284 hl (k := 4) rfl (by rw [ev8]; rfl) (by decide) rfl (fun ls hl => ?_)
        refine lv_goto (tgt := 240) hx hb dX11_knows_287 (by decide) ?_
        exact ih S7 a1 a2 a3 v8 _ _ _ (lv_sub hl [1, 2, 3, 4, 0] rfl) hG h
def fX11_knows_344 : Nat → GS → Int32 → Option (Unit × GS)
  | 0, _, _ => none
  | n + 1, S, a3 => (if (S.1 54 52) ≤ a3 then (some ((), S)) else gbd (fX11_blinds S a3) fun r3 S4 => glet (a3 + (1 : Int32)) fun v5 => (fX11_knows_344 n S4 v5))
set_option maxRecDepth 100000 in
set_option maxHeartbeats 4000000 in
theorem wX11_knows_344 {p : Program} {l : Launch} {e : Env} {s : State} {m : MethodId} {args : Array Value} {below : List Frame} {meth : Method} {c : Code} {E : GE} {res : (Unit × GS)} (hc : GM E p s m args meth c RX11 cX11_knows 5 none) : ∀ (n : Nat), ∀ (S : GS) (a3 : Int32) (H : Heap) (locs : List Loc) (ls : Array Slot), lv_has ls 5 [(0, gR E 54), (3, .int a3)] → GX E S H locs → fX11_knows_344 n S a3 = some res → W p l e rmX11_knows s m args below meth c H locs 0 0 (gZ E below args s none res.2) (F0 m 344 ls []) := by
  obtain ⟨hx, hb, -, -, -, hown, hts, -, -⟩ := id hc
  intro n
  induction n with
  | zero => intro S a3 H locs ls hl hG h; cases h
  | succ n ih =>
    intro S a3 H locs ls hl hG h
    rw [fX11_knows_344] at h
    refine lv_iload_n hx hb dX11_knows_344 rfl (lv_at hl 1 rfl) ?_
    refine lv_aload_n hx hb dX11_knows_345 rfl (lv_at hl 0 rfl) ?_
    refine g_getI hc hG 54 flX11_302 rfl rfl dX11_knows_346 ?_
    refine lv_icmp_ge (tgt := 363) hx hb dX11_knows_349 (by decide) (fun c1 => ?_) (fun c1 => ?_)
    · have h := g_pos c1 h
      exact g_vret hc hG dX11_knows_363 h
    · have h := g_neg c1 h
      refine lv_aload_n hx hb dX11_knows_352 rfl (lv_at hl 0 rfl) ?_
      refine lv_iload_n hx hb dX11_knows_353 rfl (lv_at hl 1 rfl) ?_
      obtain ⟨r3, S4, hm2, h⟩ := g_bd h
      refine g_callVv (As := [.int a3]) hc hG (mX11_blinds l E hm2) mlX11_305 mcX11_blinds miX11_blinds rfl rfl rfl rfl hl.1 rfl rfl ⟨by decide, by decide⟩ (Nat.le_of_ble_eq_true rfl) ⟨by decide, by decide⟩ dX11_knows_354 rfl (fun H locs hG => ?_)
      obtain ⟨v5, ev5⟩ : ∃ y : Int32, y = (a3 + (1 : Int32)) := ⟨_, rfl⟩
      have h := g_let ev5 h
      refine lv_iinc (v := v5) (lv' := [(3, .int v5), (0, gR E 54)]) hx hb dX11_knows_357 hl (k := 1) rfl (by rw [ev5]; rfl) (by decide) rfl (fun ls hl => ?_)
      refine lv_goto (tgt := 344) hx hb dX11_knows_360 (by decide) ?_
      exact ih S4 v5 _ _ _ (lv_sub hl [1, 0] rfl) hG h
def fX11_knows_316 : Nat → GS → Int32 → Option (Unit × GS)
  | 0, _, _ => none
  | n + 1, S, a3 => (if (S.1 54 52) ≤ a3 then glet (0 : Int32) fun v2 => (fX11_knows_344 FU S v2) else (if gib a3 32 = true then (if gib (S.1 81 a3.toNatClampNeg) 32 = true then glet (gsi S 82 (((S.1 81 a3.toNatClampNeg)).toNatClampNeg) a3) fun S5 => glet (a3 + (1 : Int32)) fun v6 => (fX11_knows_316 n S5 v6) else none) else none))
set_option maxRecDepth 100000 in
set_option maxHeartbeats 4000000 in
theorem wX11_knows_316 {p : Program} {l : Launch} {e : Env} {s : State} {m : MethodId} {args : Array Value} {below : List Frame} {meth : Method} {c : Code} {E : GE} {res : (Unit × GS)} (hc : GM E p s m args meth c RX11 cX11_knows 5 none) : ∀ (n : Nat), ∀ (S : GS) (a3 : Int32) (H : Heap) (locs : List Loc) (ls : Array Slot), lv_has ls 5 [(0, gR E 54), (3, .int a3)] → GX E S H locs → fX11_knows_316 n S a3 = some res → W p l e rmX11_knows s m args below meth c H locs 0 0 (gZ E below args s none res.2) (F0 m 316 ls []) := by
  obtain ⟨hx, hb, -, -, -, hown, hts, -, -⟩ := id hc
  intro n
  induction n with
  | zero => intro S a3 H locs ls hl hG h; cases h
  | succ n ih =>
    intro S a3 H locs ls hl hG h
    rw [fX11_knows_316] at h
    refine lv_iload_n hx hb dX11_knows_316 rfl (lv_at hl 1 rfl) ?_
    refine lv_aload_n hx hb dX11_knows_317 rfl (lv_at hl 0 rfl) ?_
    refine g_getI hc hG 54 flX11_302 rfl rfl dX11_knows_318 ?_
    refine lv_icmp_ge (tgt := 342) hx hb dX11_knows_321 (by decide) (fun c1 => ?_) (fun c1 => ?_)
    · have h := g_pos c1 h
      refine lv_iconst (v := (0 : Int32)) hx hb dX11_knows_342 (by decide) ?_
      refine lv_topi (fun v2 ev2 => ?_)
      have h := g_let ev2 h
      refine lv_istore_n (lv' := [(3, .int v2), (0, gR E 54)]) hx hb dX11_knows_343 rfl hl (by decide) rfl (fun ls hl => ?_)
      exact wX11_knows_344 hc FU S v2 _ _ _ (lv_sub hl [1, 0] rfl) hG h
    · have h := g_neg c1 h
      refine lv_aload_n hx hb dX11_knows_324 rfl (lv_at hl 0 rfl) ?_
      refine g_getR hc hG 54 82 flX11_100 rfl rfl rfl dX11_knows_325 ?_
      refine lv_aload_n hx hb dX11_knows_328 rfl (lv_at hl 0 rfl) ?_
      refine g_getR hc hG 54 81 flX11_97 rfl rfl rfl dX11_knows_329 ?_
      refine lv_iload_n hx hb dX11_knows_332 rfl (lv_at hl 1 rfl) ?_
      obtain ⟨hi3, h⟩ := g_if h
      refine g_iald hc hG 81 32 (a3.toNatClampNeg) rfl rfl hi3 rfl dX11_knows_333 ?_
      refine lv_iload_n hx hb dX11_knows_334 rfl (lv_at hl 1 rfl) ?_
      obtain ⟨hi4, h⟩ := g_if h
      refine g_iast hc hG 82 32 (((S.1 81 a3.toNatClampNeg)).toNatClampNeg) rfl rfl hi4 rfl dX11_knows_335 (fun S5 H locs eS5 hG => ?_)
      have h := g_let eS5 h
      obtain ⟨v6, ev6⟩ : ∃ y : Int32, y = (a3 + (1 : Int32)) := ⟨_, rfl⟩
      have h := g_let ev6 h
      refine lv_iinc (v := v6) (lv' := [(3, .int v6), (0, gR E 54)]) hx hb dX11_knows_336 hl (k := 1) rfl (by rw [ev6]; rfl) (by decide) rfl (fun ls hl => ?_)
      refine lv_goto (tgt := 316) hx hb dX11_knows_339 (by decide) ?_
      exact ih S5 v6 _ _ _ (lv_sub hl [1, 0] rfl) hG h
def fX11_knows_201 : Nat → GS → Int32 → Int32 → Int32 → Option (Unit × GS)
  | 0, _, _, _, _ => none
  | n + 1, S, a1, a2, a3 => (if (S.1 54 35) ≤ a3 then glet (0 : Int32) fun v2 => (fX11_knows_316 FU S v2) else (if gib a3 32 = true then glet (gsi S 82 (a3.toNatClampNeg) (-1 : Int32)) fun S4 => (if a3 = a2 then glet (a3 + (1 : Int32)) fun v6 => (fX11_knows_201 n S4 a1 a2 v6) else (if (S4.1 70 a3.toNatClampNeg) ≤ a1 then glet (S4.1 54 52) fun v8 => (fX11_knows_240 (fX11_knows_201 n) FU S4 a1 a2 a3 v8) else glet (a3 + (1 : Int32)) fun v9 => (fX11_knows_201 n S4 a1 a2 v9))) else none))
set_option maxRecDepth 100000 in
set_option maxHeartbeats 4000000 in
theorem wX11_knows_201 {p : Program} {l : Launch} {e : Env} {s : State} {m : MethodId} {args : Array Value} {below : List Frame} {meth : Method} {c : Code} {E : GE} {res : (Unit × GS)} (hc : GM E p s m args meth c RX11 cX11_knows 5 none) : ∀ (n : Nat), ∀ (S : GS) (a1 : Int32) (a2 : Int32) (a3 : Int32) (H : Heap) (locs : List Loc) (ls : Array Slot), lv_has ls 5 [(0, gR E 54), (1, .int a1), (2, .int a2), (3, .int a3)] → GX E S H locs → fX11_knows_201 n S a1 a2 a3 = some res → W p l e rmX11_knows s m args below meth c H locs 0 0 (gZ E below args s none res.2) (F0 m 201 ls []) := by
  obtain ⟨hx, hb, -, -, -, hown, hts, -, -⟩ := id hc
  intro n
  induction n with
  | zero => intro S a1 a2 a3 H locs ls hl hG h; cases h
  | succ n ih =>
    intro S a1 a2 a3 H locs ls hl hG h
    rw [fX11_knows_201] at h
    refine lv_iload_n hx hb dX11_knows_201 rfl (lv_at hl 3 rfl) ?_
    refine lv_aload_n hx hb dX11_knows_202 rfl (lv_at hl 0 rfl) ?_
    refine g_getI hc hG 54 flX11_270 rfl rfl dX11_knows_203 ?_
    refine lv_icmp_ge (tgt := 314) hx hb dX11_knows_206 (by decide) (fun c1 => ?_) (fun c1 => ?_)
    · have h := g_pos c1 h
      refine lv_iconst (v := (0 : Int32)) hx hb dX11_knows_314 (by decide) ?_
      refine lv_topi (fun v2 ev2 => ?_)
      have h := g_let ev2 h
      refine lv_istore_n (lv' := [(3, .int v2), (0, gR E 54), (1, .int a1), (2, .int a2)]) hx hb dX11_knows_315 rfl hl (by decide) rfl (fun ls hl => ?_)
      exact wX11_knows_316 hc FU S v2 _ _ _ (lv_sub hl [1, 0] rfl) hG h
    · have h := g_neg c1 h
      refine lv_aload_n hx hb dX11_knows_209 rfl (lv_at hl 0 rfl) ?_
      refine g_getR hc hG 54 82 flX11_100 rfl rfl rfl dX11_knows_210 ?_
      refine lv_iload_n hx hb dX11_knows_213 rfl (lv_at hl 3 rfl) ?_
      refine lv_iconst (v := (-1 : Int32)) hx hb dX11_knows_214 (by decide) ?_
      obtain ⟨hi3, h⟩ := g_if h
      refine g_iast hc hG 82 32 (a3.toNatClampNeg) rfl rfl hi3 rfl dX11_knows_215 (fun S4 H locs eS4 hG => ?_)
      have h := g_let eS4 h
      refine lv_iload_n hx hb dX11_knows_216 rfl (lv_at hl 3 rfl) ?_
      refine lv_iload_n hx hb dX11_knows_217 rfl (lv_at hl 2 rfl) ?_
      refine lv_icmp_eq (tgt := 308) hx hb dX11_knows_218 (by decide) (fun c5 => ?_) (fun c5 => ?_)
      · have h := g_pos c5 h
        obtain ⟨v6, ev6⟩ : ∃ y : Int32, y = (a3 + (1 : Int32)) := ⟨_, rfl⟩
        have h := g_let ev6 h
        refine lv_iinc (v := v6) (lv' := [(3, .int v6), (0, gR E 54), (1, .int a1), (2, .int a2)]) hx hb dX11_knows_308 hl (k := 3) rfl (by rw [ev6]; rfl) (by decide) rfl (fun ls hl => ?_)
        refine lv_goto (tgt := 201) hx hb dX11_knows_311 (by decide) ?_
        exact ih S4 a1 a2 v6 _ _ _ (lv_sub hl [1, 2, 3, 0] rfl) hG h
      · have h := g_neg c5 h
        refine lv_aload_n hx hb dX11_knows_221 rfl (lv_at hl 0 rfl) ?_
        refine g_getR hc hG 54 70 flX11_64 rfl rfl rfl dX11_knows_222 ?_
        refine lv_iload_n hx hb dX11_knows_225 rfl (lv_at hl 3 rfl) ?_
        refine g_iald hc hG 70 32 (a3.toNatClampNeg) rfl rfl hi3 rfl dX11_knows_226 ?_
        refine lv_iload_n hx hb dX11_knows_227 rfl (lv_at hl 1 rfl) ?_
        refine lv_icmp_le (tgt := 234) hx hb dX11_knows_228 (by decide) (fun c7 => ?_) (fun c7 => ?_)
        · have h := g_pos c7 h
          refine lv_aload_n hx hb dX11_knows_234 rfl (lv_at hl 0 rfl) ?_
          refine g_getI hc hG 54 flX11_302 rfl rfl dX11_knows_235 ?_
          refine lv_topi (fun v8 ev8 => ?_)
          have h := g_let ev8 h
          refine lv_istore (lv' := [(4, .int v8), (0, gR E 54), (1, .int a1), (2, .int a2), (3, .int a3)]) hx hb dX11_knows_238 hl (by decide) rfl (fun ls hl => ?_)
          exact wX11_knows_240 hc ih FU S4 a1 a2 a3 v8 _ _ _ (lv_sub hl [1, 2, 3, 4, 0] rfl) hG h
        · have h := g_neg c7 h
          refine lv_goto (tgt := 308) hx hb dX11_knows_231 (by decide) ?_
          obtain ⟨v9, ev9⟩ : ∃ y : Int32, y = (a3 + (1 : Int32)) := ⟨_, rfl⟩
          have h := g_let ev9 h
          refine lv_iinc (v := v9) (lv' := [(3, .int v9), (0, gR E 54), (1, .int a1), (2, .int a2)]) hx hb dX11_knows_308 hl (k := 3) rfl (by rw [ev9]; rfl) (by decide) rfl (fun ls hl => ?_)
          refine lv_goto (tgt := 201) hx hb dX11_knows_311 (by decide) ?_
          exact ih S4 a1 a2 v9 _ _ _ (lv_sub hl [1, 2, 3, 0] rfl) hG h
def fX11_knows_84 : Nat → GS → Int32 → Int32 → Int32 → Option (Unit × GS)
  | 0, _, _, _, _ => none
  | n + 1, S, a1, a2, a3 => (if (S.1 54 41) ≤ a3 then gbd (fX11_joins S) fun r3 S4 => glet (gsi S4 54 52 (0 : Int32)) fun S5 => glet (0 : Int32) fun v6 => (fX11_knows_201 FU S5 a1 a2 v6) else (if gib a3 120 = true then (if (4 : Int32) < (S.1 71 a3.toNatClampNeg) then (fX11_knows_112 (fX11_knows_84 n) S a1 a2 a3) else (if (S.1 73 a3.toNatClampNeg) = a2 then (fX11_knows_142 (fX11_knows_84 n) S a1 a2 a3) else (fX11_knows_112 (fX11_knows_84 n) S a1 a2 a3))) else none))
set_option maxRecDepth 100000 in
set_option maxHeartbeats 4000000 in
theorem wX11_knows_84 {p : Program} {l : Launch} {e : Env} {s : State} {m : MethodId} {args : Array Value} {below : List Frame} {meth : Method} {c : Code} {E : GE} {res : (Unit × GS)} (hc : GM E p s m args meth c RX11 cX11_knows 5 none) : ∀ (n : Nat), ∀ (S : GS) (a1 : Int32) (a2 : Int32) (a3 : Int32) (H : Heap) (locs : List Loc) (ls : Array Slot), lv_has ls 5 [(0, gR E 54), (1, .int a1), (2, .int a2), (3, .int a3)] → GX E S H locs → fX11_knows_84 n S a1 a2 a3 = some res → W p l e rmX11_knows s m args below meth c H locs 0 0 (gZ E below args s none res.2) (F0 m 84 ls []) := by
  obtain ⟨hx, hb, -, -, -, hown, hts, -, -⟩ := id hc
  intro n
  induction n with
  | zero => intro S a1 a2 a3 H locs ls hl hG h; cases h
  | succ n ih =>
    intro S a1 a2 a3 H locs ls hl hG h
    rw [fX11_knows_84] at h
    refine lv_iload_n hx hb dX11_knows_84 rfl (lv_at hl 3 rfl) ?_
    refine lv_aload_n hx hb dX11_knows_85 rfl (lv_at hl 0 rfl) ?_
    refine g_getI hc hG 54 flX11_282 rfl rfl dX11_knows_86 ?_
    refine lv_icmp_ge (tgt := 190) hx hb dX11_knows_89 (by decide) (fun c1 => ?_) (fun c1 => ?_)
    · have h := g_pos c1 h
      refine lv_aload_n hx hb dX11_knows_190 rfl (lv_at hl 0 rfl) ?_
      obtain ⟨r3, S4, hm2, h⟩ := g_bd h
      refine g_callVv (As := []) hc hG (mX11_joins l E hm2) mlX11_299 mcX11_joins miX11_joins rfl rfl rfl rfl hl.1 rfl rfl ⟨by decide, by decide⟩ (Nat.le_of_ble_eq_true rfl) ⟨by decide, by decide⟩ dX11_knows_191 rfl (fun H locs hG => ?_)
      refine lv_aload_n hx hb dX11_knows_194 rfl (lv_at hl 0 rfl) ?_
      refine lv_iconst (v := (0 : Int32)) hx hb dX11_knows_195 (by decide) ?_
      refine g_putI hc hG 54 fpX11_302 rfl rfl rfl rfl dX11_knows_196 (fun S5 H locs eS5 hG => ?_)
      have h := g_let eS5 h
      refine lv_iconst (v := (0 : Int32)) hx hb dX11_knows_199 (by decide) ?_
      refine lv_topi (fun v6 ev6 => ?_)
      have h := g_let ev6 h
      refine lv_istore_n (lv' := [(3, .int v6), (0, gR E 54), (1, .int a1), (2, .int a2)]) hx hb dX11_knows_200 rfl hl (by decide) rfl (fun ls hl => ?_)
      exact wX11_knows_201 hc FU S5 a1 a2 v6 _ _ _ (lv_sub hl [1, 2, 3, 0] rfl) hG h
    · have h := g_neg c1 h
      refine lv_aload_n hx hb dX11_knows_92 rfl (lv_at hl 0 rfl) ?_
      refine g_getR hc hG 54 71 flX11_67 rfl rfl rfl dX11_knows_93 ?_
      refine lv_iload_n hx hb dX11_knows_96 rfl (lv_at hl 3 rfl) ?_
      obtain ⟨hi7, h⟩ := g_if h
      refine g_iald hc hG 71 120 (a3.toNatClampNeg) rfl rfl hi7 rfl dX11_knows_97 ?_
      refine lv_iconst (v := (4 : Int32)) hx hb dX11_knows_98 (by decide) ?_
      refine lv_icmp_gt (tgt := 112) hx hb dX11_knows_99 (by decide) (fun c8 => ?_) (fun c8 => ?_)
      · have h := g_pos c8 h
        exact wX11_knows_112 hc ih S a1 a2 a3 _ _ _ (lv_sub hl [0, 1, 2, 3] rfl) hG h
      · have h := g_neg c8 h
        refine lv_aload_n hx hb dX11_knows_102 rfl (lv_at hl 0 rfl) ?_
        refine g_getR hc hG 54 73 flX11_73 rfl rfl rfl dX11_knows_103 ?_
        refine lv_iload_n hx hb dX11_knows_106 rfl (lv_at hl 3 rfl) ?_
        refine g_iald hc hG 73 120 (a3.toNatClampNeg) rfl rfl hi7 rfl dX11_knows_107 ?_
        refine lv_iload_n hx hb dX11_knows_108 rfl (lv_at hl 2 rfl) ?_
        refine lv_icmp_eq (tgt := 142) hx hb dX11_knows_109 (by decide) (fun c9 => ?_) (fun c9 => ?_)
        · have h := g_pos c9 h
          exact wX11_knows_142 hc ih S a1 a2 a3 _ _ _ (lv_sub hl [0, 1, 2, 3] rfl) hG h
        · have h := g_neg c9 h
          exact wX11_knows_112 hc ih S a1 a2 a3 _ _ _ (lv_sub hl [0, 1, 2, 3] rfl) hG h
def fX11_knows_30 : Nat → GS → Int32 → Int32 → Int32 → Option (Unit × GS)
  | 0, _, _, _, _ => none
  | n + 1, S, a1, a2, a3 => (if a3 < 0 then glet (0 : Int32) fun v2 => (fX11_knows_84 FU S a1 a2 v2) else (if gib a3 120 = true then (if a1 < (S.1 72 a3.toNatClampNeg) then glet (a3 + (-1 : Int32)) fun v5 => (fX11_knows_30 n S a1 a2 v5) else (if (S.1 77 a3.toNatClampNeg) = 0 then (if (S.1 71 a3.toNatClampNeg) = (8 : Int32) then (if gib (S.1 73 a3.toNatClampNeg) 120 = true then glet (gsi S 77 (((S.1 73 a3.toNatClampNeg)).toNatClampNeg) (vp_nar .boolean (1 : Int32))) fun S11 => glet (a3 + (-1 : Int32)) fun v12 => (fX11_knows_30 n S11 a1 a2 v12) else none) else glet (a3 + (-1 : Int32)) fun v9 => (fX11_knows_30 n S a1 a2 v9)) else glet (a3 + (-1 : Int32)) fun v7 => (fX11_knows_30 n S a1 a2 v7))) else none))
set_option maxRecDepth 100000 in
set_option maxHeartbeats 4000000 in
theorem wX11_knows_30 {p : Program} {l : Launch} {e : Env} {s : State} {m : MethodId} {args : Array Value} {below : List Frame} {meth : Method} {c : Code} {E : GE} {res : (Unit × GS)} (hc : GM E p s m args meth c RX11 cX11_knows 5 none) : ∀ (n : Nat), ∀ (S : GS) (a1 : Int32) (a2 : Int32) (a3 : Int32) (H : Heap) (locs : List Loc) (ls : Array Slot), lv_has ls 5 [(0, gR E 54), (1, .int a1), (2, .int a2), (3, .int a3)] → GX E S H locs → fX11_knows_30 n S a1 a2 a3 = some res → W p l e rmX11_knows s m args below meth c H locs 0 0 (gZ E below args s none res.2) (F0 m 30 ls []) := by
  obtain ⟨hx, hb, -, -, -, hown, hts, -, -⟩ := id hc
  intro n
  induction n with
  | zero => intro S a1 a2 a3 H locs ls hl hG h; cases h
  | succ n ih =>
    intro S a1 a2 a3 H locs ls hl hG h
    rw [fX11_knows_30] at h
    refine lv_iload_n hx hb dX11_knows_30 rfl (lv_at hl 3 rfl) ?_
    refine lv_if_lt (tgt := 82) hx hb dX11_knows_31 (by decide) (fun c1 => ?_) (fun c1 => ?_)
    · have h := g_pos c1 h
      refine lv_iconst (v := (0 : Int32)) hx hb dX11_knows_82 (by decide) ?_
      refine lv_topi (fun v2 ev2 => ?_)
      have h := g_let ev2 h
      refine lv_istore_n (lv' := [(3, .int v2), (0, gR E 54), (1, .int a1), (2, .int a2)]) hx hb dX11_knows_83 rfl hl (by decide) rfl (fun ls hl => ?_)
      exact wX11_knows_84 hc FU S a1 a2 v2 _ _ _ (lv_sub hl [1, 2, 3, 0] rfl) hG h
    · have h := g_neg c1 h
      refine lv_aload_n hx hb dX11_knows_34 rfl (lv_at hl 0 rfl) ?_
      refine g_getR hc hG 54 72 flX11_70 rfl rfl rfl dX11_knows_35 ?_
      refine lv_iload_n hx hb dX11_knows_38 rfl (lv_at hl 3 rfl) ?_
      obtain ⟨hi3, h⟩ := g_if h
      refine g_iald hc hG 72 120 (a3.toNatClampNeg) rfl rfl hi3 rfl dX11_knows_39 ?_
      refine lv_iload_n hx hb dX11_knows_40 rfl (lv_at hl 1 rfl) ?_
      refine lv_icmp_gt (tgt := 76) hx hb dX11_knows_41 (by decide) (fun c4 => ?_) (fun c4 => ?_)
      · have h := g_pos c4 h
        obtain ⟨v5, ev5⟩ : ∃ y : Int32, y = (a3 + (-1 : Int32)) := ⟨_, rfl⟩
        have h := g_let ev5 h
        refine lv_iinc (v := v5) (lv' := [(3, .int v5), (0, gR E 54), (1, .int a1), (2, .int a2)]) hx hb dX11_knows_76 hl (k := 3) rfl (by rw [ev5]; rfl) (by decide) rfl (fun ls hl => ?_)
        refine lv_goto (tgt := 30) hx hb dX11_knows_79 (by decide) ?_
        exact ih S a1 a2 v5 _ _ _ (lv_sub hl [1, 2, 3, 0] rfl) hG h
      · have h := g_neg c4 h
        refine lv_aload_n hx hb dX11_knows_44 rfl (lv_at hl 0 rfl) ?_
        refine g_getR hc hG 54 77 flX11_85 rfl rfl rfl dX11_knows_45 ?_
        refine lv_iload_n hx hb dX11_knows_48 rfl (lv_at hl 3 rfl) ?_
        refine g_zald hc hG 77 120 (a3.toNatClampNeg) rfl rfl hi3 rfl dX11_knows_49 ?_
        refine lv_if_ne (tgt := 76) hx hb dX11_knows_50 (by decide) (fun c6 => ?_) (fun c6 => ?_)
        · have h := g_neg c6 h
          obtain ⟨v7, ev7⟩ : ∃ y : Int32, y = (a3 + (-1 : Int32)) := ⟨_, rfl⟩
          have h := g_let ev7 h
          refine lv_iinc (v := v7) (lv' := [(3, .int v7), (0, gR E 54), (1, .int a1), (2, .int a2)]) hx hb dX11_knows_76 hl (k := 3) rfl (by rw [ev7]; rfl) (by decide) rfl (fun ls hl => ?_)
          refine lv_goto (tgt := 30) hx hb dX11_knows_79 (by decide) ?_
          exact ih S a1 a2 v7 _ _ _ (lv_sub hl [1, 2, 3, 0] rfl) hG h
        · have h := g_pos c6 h
          refine lv_aload_n hx hb dX11_knows_53 rfl (lv_at hl 0 rfl) ?_
          refine g_getR hc hG 54 71 flX11_67 rfl rfl rfl dX11_knows_54 ?_
          refine lv_iload_n hx hb dX11_knows_57 rfl (lv_at hl 3 rfl) ?_
          refine g_iald hc hG 71 120 (a3.toNatClampNeg) rfl rfl hi3 rfl dX11_knows_58 ?_
          refine lv_bipush (v := (8 : Int32)) hx hb dX11_knows_59 (by decide) ?_
          refine lv_icmp_ne (tgt := 76) hx hb dX11_knows_61 (by decide) (fun c8 => ?_) (fun c8 => ?_)
          · have h := g_neg c8 h
            obtain ⟨v9, ev9⟩ : ∃ y : Int32, y = (a3 + (-1 : Int32)) := ⟨_, rfl⟩
            have h := g_let ev9 h
            refine lv_iinc (v := v9) (lv' := [(3, .int v9), (0, gR E 54), (1, .int a1), (2, .int a2)]) hx hb dX11_knows_76 hl (k := 3) rfl (by rw [ev9]; rfl) (by decide) rfl (fun ls hl => ?_)
            refine lv_goto (tgt := 30) hx hb dX11_knows_79 (by decide) ?_
            exact ih S a1 a2 v9 _ _ _ (lv_sub hl [1, 2, 3, 0] rfl) hG h
          · have h := g_pos c8 h
            refine lv_aload_n hx hb dX11_knows_64 rfl (lv_at hl 0 rfl) ?_
            refine g_getR hc hG 54 77 flX11_85 rfl rfl rfl dX11_knows_65 ?_
            refine lv_aload_n hx hb dX11_knows_68 rfl (lv_at hl 0 rfl) ?_
            refine g_getR hc hG 54 73 flX11_73 rfl rfl rfl dX11_knows_69 ?_
            refine lv_iload_n hx hb dX11_knows_72 rfl (lv_at hl 3 rfl) ?_
            refine g_iald hc hG 73 120 (a3.toNatClampNeg) rfl rfl hi3 rfl dX11_knows_73 ?_
            refine lv_iconst (v := (1 : Int32)) hx hb dX11_knows_74 (by decide) ?_
            obtain ⟨hi10, h⟩ := g_if h
            refine g_zast hc hG 77 120 (((S.1 73 a3.toNatClampNeg)).toNatClampNeg) rfl rfl hi10 rfl dX11_knows_75 (fun S11 H locs eS11 hG => ?_)
            have h := g_let eS11 h
            obtain ⟨v12, ev12⟩ : ∃ y : Int32, y = (a3 + (-1 : Int32)) := ⟨_, rfl⟩
            have h := g_let ev12 h
            refine lv_iinc (v := v12) (lv' := [(3, .int v12), (0, gR E 54), (1, .int a1), (2, .int a2)]) hx hb dX11_knows_76 hl (k := 3) rfl (by rw [ev12]; rfl) (by decide) rfl (fun ls hl => ?_)
            refine lv_goto (tgt := 30) hx hb dX11_knows_79 (by decide) ?_
            exact ih S11 a1 a2 v12 _ _ _ (lv_sub hl [1, 2, 3, 0] rfl) hG h
def fX11_knows_2 : Nat → GS → Int32 → Int32 → Int32 → Option (Unit × GS)
  | 0, _, _, _, _ => none
  | n + 1, S, a1, a2, a3 => (if (S.1 54 41) ≤ a3 then glet ((S.1 54 41) - (1 : Int32)) fun v2 => (fX11_knows_30 FU S a1 a2 v2) else (if gib a3 120 = true then glet (gsi S 77 (a3.toNatClampNeg) (vp_nar .boolean (0 : Int32))) fun S4 => glet (a3 + (1 : Int32)) fun v5 => (fX11_knows_2 n S4 a1 a2 v5) else none))
set_option maxRecDepth 100000 in
set_option maxHeartbeats 4000000 in
theorem wX11_knows_2 {p : Program} {l : Launch} {e : Env} {s : State} {m : MethodId} {args : Array Value} {below : List Frame} {meth : Method} {c : Code} {E : GE} {res : (Unit × GS)} (hc : GM E p s m args meth c RX11 cX11_knows 5 none) : ∀ (n : Nat), ∀ (S : GS) (a1 : Int32) (a2 : Int32) (a3 : Int32) (H : Heap) (locs : List Loc) (ls : Array Slot), lv_has ls 5 [(0, gR E 54), (1, .int a1), (2, .int a2), (3, .int a3)] → GX E S H locs → fX11_knows_2 n S a1 a2 a3 = some res → W p l e rmX11_knows s m args below meth c H locs 0 0 (gZ E below args s none res.2) (F0 m 2 ls []) := by
  obtain ⟨hx, hb, -, -, -, hown, hts, -, -⟩ := id hc
  intro n
  induction n with
  | zero => intro S a1 a2 a3 H locs ls hl hG h; cases h
  | succ n ih =>
    intro S a1 a2 a3 H locs ls hl hG h
    rw [fX11_knows_2] at h
    refine lv_iload_n hx hb dX11_knows_2 rfl (lv_at hl 3 rfl) ?_
    refine lv_aload_n hx hb dX11_knows_3 rfl (lv_at hl 0 rfl) ?_
    refine g_getI hc hG 54 flX11_282 rfl rfl dX11_knows_4 ?_
    refine lv_icmp_ge (tgt := 23) hx hb dX11_knows_7 (by decide) (fun c1 => ?_) (fun c1 => ?_)
    · have h := g_pos c1 h
      refine lv_aload_n hx hb dX11_knows_23 rfl (lv_at hl 0 rfl) ?_
      refine g_getI hc hG 54 flX11_282 rfl rfl dX11_knows_24 ?_
      refine lv_iconst (v := (1 : Int32)) hx hb dX11_knows_27 (by decide) ?_
      refine lv_isub hx hb dX11_knows_28 ?_
      refine lv_topi (fun v2 ev2 => ?_)
      have h := g_let ev2 h
      refine lv_istore_n (lv' := [(3, .int v2), (0, gR E 54), (1, .int a1), (2, .int a2)]) hx hb dX11_knows_29 rfl hl (by decide) rfl (fun ls hl => ?_)
      exact wX11_knows_30 hc FU S a1 a2 v2 _ _ _ (lv_sub hl [1, 2, 3, 0] rfl) hG h
    · have h := g_neg c1 h
      refine lv_aload_n hx hb dX11_knows_10 rfl (lv_at hl 0 rfl) ?_
      refine g_getR hc hG 54 77 flX11_85 rfl rfl rfl dX11_knows_11 ?_
      refine lv_iload_n hx hb dX11_knows_14 rfl (lv_at hl 3 rfl) ?_
      refine lv_iconst (v := (0 : Int32)) hx hb dX11_knows_15 (by decide) ?_
      obtain ⟨hi3, h⟩ := g_if h
      refine g_zast hc hG 77 120 (a3.toNatClampNeg) rfl rfl hi3 rfl dX11_knows_16 (fun S4 H locs eS4 hG => ?_)
      have h := g_let eS4 h
      obtain ⟨v5, ev5⟩ : ∃ y : Int32, y = (a3 + (1 : Int32)) := ⟨_, rfl⟩
      have h := g_let ev5 h
      refine lv_iinc (v := v5) (lv' := [(3, .int v5), (0, gR E 54), (1, .int a1), (2, .int a2)]) hx hb dX11_knows_17 hl (k := 3) rfl (by rw [ev5]; rfl) (by decide) rfl (fun ls hl => ?_)
      refine lv_goto (tgt := 2) hx hb dX11_knows_20 (by decide) ?_
      exact ih S4 a1 a2 v5 _ _ _ (lv_sub hl [1, 2, 3, 0] rfl) hG h
def fX11_knows (S : GS) (a1 : Int32) (a2 : Int32) : Option (Unit × GS) := glet (0 : Int32) fun v1 => (fX11_knows_2 FU S a1 a2 v1)
set_option maxRecDepth 100000 in
set_option maxHeartbeats 4000000 in
theorem wX11_knows_0 {p : Program} {l : Launch} {e : Env} {s : State} {m : MethodId} {args : Array Value} {below : List Frame} {meth : Method} {c : Code} {E : GE} {res : (Unit × GS)} (hc : GM E p s m args meth c RX11 cX11_knows 5 none) : ∀ (S : GS) (a1 : Int32) (a2 : Int32) (H : Heap) (locs : List Loc) (ls : Array Slot), lv_has ls 5 [(0, gR E 54), (1, .int a1), (2, .int a2)] → GX E S H locs → fX11_knows S a1 a2 = some res → W p l e rmX11_knows s m args below meth c H locs 0 0 (gZ E below args s none res.2) (F0 m 0 ls []) := by
  obtain ⟨hx, hb, -, -, -, hown, hts, -, -⟩ := id hc
  intro S a1 a2 H locs ls hl hG h
  unfold fX11_knows at h
  refine lv_iconst (v := (0 : Int32)) hx hb dX11_knows_0 (by decide) ?_
  refine lv_topi (fun v1 ev1 => ?_)
  have h := g_let ev1 h
  refine lv_istore_n (lv' := [(3, .int v1), (0, gR E 54), (1, .int a1), (2, .int a2)]) hx hb dX11_knows_1 rfl hl (by decide) rfl (fun ls hl => ?_)
  exact wX11_knows_2 hc FU S a1 a2 v1 _ _ _ (lv_sub hl [1, 2, 3, 0] rfl) hG h
theorem mX11_knows (l : Launch) (E : GE) {S : GS} {a1 : Int32} {a2 : Int32} {res : (Unit × GS)} (h : fX11_knows S a1 a2 = some res) : gMet l E yX11_knows cX11_knows 5 none rmX11_knows [gR E 54, .int a1, .int a2] S none res.2 :=
  g_met (by decide) (Nat.le_of_ble_eq_true rfl) rfl fun p e s m below meth c H ls hc hG hl => wX11_knows_0 hc S a1 a2 H [] ls hl hG h
abbrev rmX11_asOf : Room := { frames := 1, cells := 0, slots := 0, locals := 24 }
def fX11_asOf_52 (S : GS) : Option (Unit × GS) := gbd (fX11_undoes S (S.1 54 58)) fun r2 S3 => (some ((), S3))
set_option maxRecDepth 100000 in
set_option maxHeartbeats 4000000 in
theorem wX11_asOf_52 {p : Program} {l : Launch} {e : Env} {s : State} {m : MethodId} {args : Array Value} {below : List Frame} {meth : Method} {c : Code} {E : GE} {res : (Unit × GS)} (hc : GM E p s m args meth c RX11 cX11_asOf 2 none) : ∀ (S : GS) (H : Heap) (locs : List Loc) (ls : Array Slot), lv_has ls 2 [(0, gR E 54)] → GX E S H locs → fX11_asOf_52 S = some res → W p l e rmX11_asOf s m args below meth c H locs 0 0 (gZ E below args s none res.2) (F0 m 52 ls []) := by
  obtain ⟨hx, hb, -, -, -, hown, hts, -, -⟩ := id hc
  intro S H locs ls hl hG h
  unfold fX11_asOf_52 at h
  refine lv_aload_n hx hb dX11_asOf_52 rfl (lv_at hl 0 rfl) ?_
  refine lv_aload_n hx hb dX11_asOf_53 rfl (lv_at hl 0 rfl) ?_
  refine g_getI hc hG 54 flX11_363 rfl rfl dX11_asOf_54 ?_
  obtain ⟨r2, S3, hm1, h⟩ := g_bd h
  refine g_callVv (As := [.int (S.1 54 58)]) hc hG (mX11_undoes l E hm1) mlX11_342 mcX11_undoes miX11_undoes rfl rfl rfl rfl hl.1 rfl rfl ⟨by decide, by decide⟩ (Nat.le_of_ble_eq_true rfl) ⟨by decide, by decide⟩ dX11_asOf_57 rfl (fun H locs hG => ?_)
  exact g_vret hc hG dX11_asOf_60 h
def fX11_asOf_10 : Nat → GS → Int32 → Option (Unit × GS)
  | 0, _, _ => none
  | n + 1, S, a1 => (if (S.1 54 52) ≤ (S.1 54 58) then (fX11_asOf_52 S) else (if gib (S.1 54 58) 32 = true then (if gib (S.1 81 ((S.1 54 58)).toNatClampNeg) 32 = true then (if a1 < (S.1 67 ((S.1 81 ((S.1 54 58)).toNatClampNeg)).toNatClampNeg) then (fX11_asOf_52 S) else glet (gsi S 54 58 ((S.1 54 58) + (1 : Int32))) fun S5 => (fX11_asOf_10 n S5 a1)) else none) else none))
set_option maxRecDepth 100000 in
set_option maxHeartbeats 4000000 in
theorem wX11_asOf_10 {p : Program} {l : Launch} {e : Env} {s : State} {m : MethodId} {args : Array Value} {below : List Frame} {meth : Method} {c : Code} {E : GE} {res : (Unit × GS)} (hc : GM E p s m args meth c RX11 cX11_asOf 2 none) : ∀ (n : Nat), ∀ (S : GS) (a1 : Int32) (H : Heap) (locs : List Loc) (ls : Array Slot), lv_has ls 2 [(0, gR E 54), (1, .int a1)] → GX E S H locs → fX11_asOf_10 n S a1 = some res → W p l e rmX11_asOf s m args below meth c H locs 0 0 (gZ E below args s none res.2) (F0 m 10 ls []) := by
  obtain ⟨hx, hb, -, -, -, hown, hts, -, -⟩ := id hc
  intro n
  induction n with
  | zero => intro S a1 H locs ls hl hG h; cases h
  | succ n ih =>
    intro S a1 H locs ls hl hG h
    rw [fX11_asOf_10] at h
    refine lv_aload_n hx hb dX11_asOf_10 rfl (lv_at hl 0 rfl) ?_
    refine g_getI hc hG 54 flX11_363 rfl rfl dX11_asOf_11 ?_
    refine lv_aload_n hx hb dX11_asOf_14 rfl (lv_at hl 0 rfl) ?_
    refine g_getI hc hG 54 flX11_302 rfl rfl dX11_asOf_15 ?_
    refine lv_icmp_ge (tgt := 52) hx hb dX11_asOf_18 (by decide) (fun c1 => ?_) (fun c1 => ?_)
    · have h := g_pos c1 h
      exact wX11_asOf_52 hc S _ _ _ (lv_sub hl [0] rfl) hG h
    · have h := g_neg c1 h
      refine lv_aload_n hx hb dX11_asOf_21 rfl (lv_at hl 0 rfl) ?_
      refine g_getR hc hG 54 67 flX11_55 rfl rfl rfl dX11_asOf_22 ?_
      refine lv_aload_n hx hb dX11_asOf_25 rfl (lv_at hl 0 rfl) ?_
      refine g_getR hc hG 54 81 flX11_97 rfl rfl rfl dX11_asOf_26 ?_
      refine lv_aload_n hx hb dX11_asOf_29 rfl (lv_at hl 0 rfl) ?_
      refine g_getI hc hG 54 flX11_363 rfl rfl dX11_asOf_30 ?_
      obtain ⟨hi2, h⟩ := g_if h
      refine g_iald hc hG 81 32 (((S.1 54 58)).toNatClampNeg) rfl rfl hi2 rfl dX11_asOf_33 ?_
      obtain ⟨hi3, h⟩ := g_if h
      refine g_iald hc hG 67 32 (((S.1 81 ((S.1 54 58)).toNatClampNeg)).toNatClampNeg) rfl rfl hi3 rfl dX11_asOf_34 ?_
      refine lv_iload_n hx hb dX11_asOf_35 rfl (lv_at hl 1 rfl) ?_
      refine lv_icmp_gt (tgt := 52) hx hb dX11_asOf_36 (by decide) (fun c4 => ?_) (fun c4 => ?_)
      · have h := g_pos c4 h
        exact wX11_asOf_52 hc S _ _ _ (lv_sub hl [0] rfl) hG h
      · have h := g_neg c4 h
        refine lv_aload_n hx hb dX11_asOf_39 rfl (lv_at hl 0 rfl) ?_
        refine lv_dup hx hb dX11_asOf_40 rfl ?_
        refine g_getI hc hG 54 flX11_363 rfl rfl dX11_asOf_41 ?_
        refine lv_iconst (v := (1 : Int32)) hx hb dX11_asOf_44 (by decide) ?_
        refine lv_iadd hx hb dX11_asOf_45 ?_
        refine g_putI hc hG 54 fpX11_363 rfl rfl rfl rfl dX11_asOf_46 (fun S5 H locs eS5 hG => ?_)
        have h := g_let eS5 h
        refine lv_goto (tgt := 10) hx hb dX11_asOf_49 (by decide) ?_
        exact ih S5 a1 _ _ _ (lv_sub hl [0, 1] rfl) hG h
def fX11_asOf (S : GS) (a1 : Int32) : Option (Unit × GS) := glet (gsi S 54 59 a1) fun S1 => glet (gsi S1 54 58 (0 : Int32)) fun S2 => (fX11_asOf_10 FU S2 a1)
set_option maxRecDepth 100000 in
set_option maxHeartbeats 4000000 in
theorem wX11_asOf_0 {p : Program} {l : Launch} {e : Env} {s : State} {m : MethodId} {args : Array Value} {below : List Frame} {meth : Method} {c : Code} {E : GE} {res : (Unit × GS)} (hc : GM E p s m args meth c RX11 cX11_asOf 2 none) : ∀ (S : GS) (a1 : Int32) (H : Heap) (locs : List Loc) (ls : Array Slot), lv_has ls 2 [(0, gR E 54), (1, .int a1)] → GX E S H locs → fX11_asOf S a1 = some res → W p l e rmX11_asOf s m args below meth c H locs 0 0 (gZ E below args s none res.2) (F0 m 0 ls []) := by
  obtain ⟨hx, hb, -, -, -, hown, hts, -, -⟩ := id hc
  intro S a1 H locs ls hl hG h
  unfold fX11_asOf at h
  refine lv_aload_n hx hb dX11_asOf_0 rfl (lv_at hl 0 rfl) ?_
  refine lv_iload_n hx hb dX11_asOf_1 rfl (lv_at hl 1 rfl) ?_
  refine g_putI hc hG 54 fpX11_360 rfl rfl rfl rfl dX11_asOf_2 (fun S1 H locs eS1 hG => ?_)
  have h := g_let eS1 h
  refine lv_aload_n hx hb dX11_asOf_5 rfl (lv_at hl 0 rfl) ?_
  refine lv_iconst (v := (0 : Int32)) hx hb dX11_asOf_6 (by decide) ?_
  refine g_putI hc hG 54 fpX11_363 rfl rfl rfl rfl dX11_asOf_7 (fun S2 H locs eS2 hG => ?_)
  have h := g_let eS2 h
  exact wX11_asOf_10 hc FU S2 a1 _ _ _ (lv_sub hl [0, 1] rfl) hG h
theorem mX11_asOf (l : Launch) (E : GE) {S : GS} {a1 : Int32} {res : (Unit × GS)} (h : fX11_asOf S a1 = some res) : gMet l E yX11_asOf cX11_asOf 2 none rmX11_asOf [gR E 54, .int a1] S none res.2 :=
  g_met (by decide) (Nat.le_of_ble_eq_true rfl) rfl fun p e s m below meth c H ls hc hG hl => wX11_asOf_0 hc S a1 H [] ls hl hG h
abbrev rmX11_isBefore : Room := { frames := 0, cells := 0, slots := 0, locals := 0 }
def fX11_isBefore (S : GS) (a1 : Int32) (a2 : Int32) : Option Int32 := (if a2 = (-1 : Int32) then (some (0 : Int32)) else (if gib a1 32 = true then (if gib (S.1 66 a1.toNatClampNeg) 6 = true then glet (S.1 63 ((S.1 66 a1.toNatClampNeg)).toNatClampNeg) fun v4 => (if gib a2 32 = true then (if gib (S.1 66 a2.toNatClampNeg) 6 = true then glet (S.1 63 ((S.1 66 a2.toNatClampNeg)).toNatClampNeg) fun v7 => (if v4 < v7 then (some (1 : Int32)) else (if v4 = v7 then (if (S.1 82 a2.toNatClampNeg) ≤ (S.1 82 a1.toNatClampNeg) then (some (0 : Int32)) else (some (1 : Int32))) else (some (0 : Int32)))) else none) else none) else none) else none))
set_option maxRecDepth 100000 in
set_option maxHeartbeats 4000000 in
theorem wX11_isBefore_0 {p : Program} {l : Launch} {e : Env} {s : State} {m : MethodId} {args : Array Value} {below : List Frame} {meth : Method} {c : Code} {E : GE} {res : Int32} (hc : GM E p s m args meth c RX11 cX11_isBefore 5 (some .boolean)) : ∀ (S : GS) (a1 : Int32) (a2 : Int32) (H : Heap) (locs : List Loc) (ls : Array Slot), lv_has ls 5 [(0, gR E 54), (1, .int a1), (2, .int a2)] → GX E S H locs → fX11_isBefore S a1 a2 = some res → W p l e rmX11_isBefore s m args below meth c H locs 0 0 (gZ E below args s (some (.int res)) S) (F0 m 0 ls []) := by
  obtain ⟨hx, hb, -, -, -, hown, hts, -, -⟩ := id hc
  intro S a1 a2 H locs ls hl hG h
  unfold fX11_isBefore at h
  refine lv_iload_n hx hb dX11_isBefore_0 rfl (lv_at hl 2 rfl) ?_
  refine lv_iconst (v := (-1 : Int32)) hx hb dX11_isBefore_1 (by decide) ?_
  refine lv_icmp_ne (tgt := 7) hx hb dX11_isBefore_2 (by decide) (fun c1 => ?_) (fun c1 => ?_)
  · have h := g_neg c1 h
    refine lv_aload_n hx hb dX11_isBefore_7 rfl (lv_at hl 0 rfl) ?_
    refine g_getR hc hG 54 63 flX11_43 rfl rfl rfl dX11_isBefore_8 ?_
    refine lv_aload_n hx hb dX11_isBefore_11 rfl (lv_at hl 0 rfl) ?_
    refine g_getR hc hG 54 66 flX11_52 rfl rfl rfl dX11_isBefore_12 ?_
    refine lv_iload_n hx hb dX11_isBefore_15 rfl (lv_at hl 1 rfl) ?_
    obtain ⟨hi2, h⟩ := g_if h
    refine g_iald hc hG 66 32 (a1.toNatClampNeg) rfl rfl hi2 rfl dX11_isBefore_16 ?_
    obtain ⟨hi3, h⟩ := g_if h
    refine g_iald hc hG 63 6 (((S.1 66 a1.toNatClampNeg)).toNatClampNeg) rfl rfl hi3 rfl dX11_isBefore_17 ?_
    refine lv_topi (fun v4 ev4 => ?_)
    have h := g_let ev4 h
    refine lv_istore_n (lv' := [(3, .int v4), (0, gR E 54), (1, .int a1), (2, .int a2)]) hx hb dX11_isBefore_18 rfl hl (by decide) rfl (fun ls hl => ?_)
    refine lv_aload_n hx hb dX11_isBefore_19 rfl (lv_at hl 1 rfl) ?_
    refine g_getR hc hG 54 63 flX11_43 rfl rfl rfl dX11_isBefore_20 ?_
    refine lv_aload_n hx hb dX11_isBefore_23 rfl (lv_at hl 1 rfl) ?_
    refine g_getR hc hG 54 66 flX11_52 rfl rfl rfl dX11_isBefore_24 ?_
    refine lv_iload_n hx hb dX11_isBefore_27 rfl (lv_at hl 3 rfl) ?_
    obtain ⟨hi5, h⟩ := g_if h
    refine g_iald hc hG 66 32 (a2.toNatClampNeg) rfl rfl hi5 rfl dX11_isBefore_28 ?_
    obtain ⟨hi6, h⟩ := g_if h
    refine g_iald hc hG 63 6 (((S.1 66 a2.toNatClampNeg)).toNatClampNeg) rfl rfl hi6 rfl dX11_isBefore_29 ?_
    refine lv_topi (fun v7 ev7 => ?_)
    have h := g_let ev7 h
    refine lv_istore (lv' := [(4, .int v7), (3, .int v4), (0, gR E 54), (1, .int a1), (2, .int a2)]) hx hb dX11_isBefore_30 hl (by decide) rfl (fun ls hl => ?_)
    refine lv_iload_n hx hb dX11_isBefore_32 rfl (lv_at hl 1 rfl) ?_
    refine lv_iload hx hb dX11_isBefore_33 (lv_at hl 0 rfl) ?_
    refine lv_icmp_lt (tgt := 59) hx hb dX11_isBefore_35 (by decide) (fun c8 => ?_) (fun c8 => ?_)
    · have h := g_pos c8 h
      refine lv_iconst (v := (1 : Int32)) hx hb dX11_isBefore_59 (by decide) ?_
      refine lv_goto (tgt := 64) hx hb dX11_isBefore_60 (by decide) ?_
      exact g_zretp hc hG (Or.inr rfl) dX11_isBefore_64 h
    · have h := g_neg c8 h
      refine lv_iload_n hx hb dX11_isBefore_38 rfl (lv_at hl 1 rfl) ?_
      refine lv_iload hx hb dX11_isBefore_39 (lv_at hl 0 rfl) ?_
      refine lv_icmp_ne (tgt := 63) hx hb dX11_isBefore_41 (by decide) (fun c9 => ?_) (fun c9 => ?_)
      · have h := g_neg c9 h
        refine lv_iconst (v := (0 : Int32)) hx hb dX11_isBefore_63 (by decide) ?_
        exact g_zretp hc hG (Or.inl rfl) dX11_isBefore_64 h
      · have h := g_pos c9 h
        refine lv_aload_n hx hb dX11_isBefore_44 rfl (lv_at hl 2 rfl) ?_
        refine g_getR hc hG 54 82 flX11_100 rfl rfl rfl dX11_isBefore_45 ?_
        refine lv_iload_n hx hb dX11_isBefore_48 rfl (lv_at hl 3 rfl) ?_
        refine g_iald hc hG 82 32 (a1.toNatClampNeg) rfl rfl hi2 rfl dX11_isBefore_49 ?_
        refine lv_aload_n hx hb dX11_isBefore_50 rfl (lv_at hl 2 rfl) ?_
        refine g_getR hc hG 54 82 flX11_100 rfl rfl rfl dX11_isBefore_51 ?_
        refine lv_iload_n hx hb dX11_isBefore_54 rfl (lv_at hl 4 rfl) ?_
        refine g_iald hc hG 82 32 (a2.toNatClampNeg) rfl rfl hi5 rfl dX11_isBefore_55 ?_
        refine lv_icmp_ge (tgt := 63) hx hb dX11_isBefore_56 (by decide) (fun c10 => ?_) (fun c10 => ?_)
        · have h := g_pos c10 h
          refine lv_iconst (v := (0 : Int32)) hx hb dX11_isBefore_63 (by decide) ?_
          exact g_zretp hc hG (Or.inl rfl) dX11_isBefore_64 h
        · have h := g_neg c10 h
          refine lv_iconst (v := (1 : Int32)) hx hb dX11_isBefore_59 (by decide) ?_
          refine lv_goto (tgt := 64) hx hb dX11_isBefore_60 (by decide) ?_
          exact g_zretp hc hG (Or.inr rfl) dX11_isBefore_64 h
  · have h := g_pos c1 h
    refine lv_iconst (v := (0 : Int32)) hx hb dX11_isBefore_5 (by decide) ?_
    exact g_zretp hc hG (Or.inl rfl) dX11_isBefore_6 h
theorem mX11_isBefore (l : Launch) (E : GE) {S : GS} {a1 : Int32} {a2 : Int32} {res : Int32} (h : fX11_isBefore S a1 a2 = some res) : gMet l E yX11_isBefore cX11_isBefore 5 (some .boolean) rmX11_isBefore [gR E 54, .int a1, .int a2] S (some (.int res)) S :=
  g_met (by decide) (Nat.le_of_ble_eq_true rfl) rfl fun p e s m below meth c H ls hc hG hl => wX11_isBefore_0 hc S a1 a2 H [] ls hl hG h
abbrev rmX11_hasSaid : Room := { frames := 0, cells := 0, slots := 0, locals := 0 }
def fX11_hasSaid_3 : Nat → GS → Int32 → Int32 → Int32 → Int32 → Option Int32
  | 0, _, _, _, _, _ => none
  | n + 1, S, a1, a2, a3, a4 => (if (S.1 54 41) ≤ a4 then (some (0 : Int32)) else (if gib a4 120 = true then (if (S.1 78 a4.toNatClampNeg) = 0 then glet (a4 + (1 : Int32)) fun v4 => (fX11_hasSaid_3 n S a1 a2 a3 v4) else (if (S.1 71 a4.toNatClampNeg) = (1 : Int32) then (if (S.1 73 a4.toNatClampNeg) = a1 then (if gib (S.1 75 a4.toNatClampNeg) 12 = true then (if (S.1 79 ((S.1 75 a4.toNatClampNeg)).toNatClampNeg) = a2 then (if ((S.1 76 a4.toNatClampNeg) &&& (a3 ^^^ (-1 : Int32))) = 0 then (some (1 : Int32)) else glet (a4 + (1 : Int32)) fun v13 => (fX11_hasSaid_3 n S a1 a2 a3 v13)) else glet (a4 + (1 : Int32)) fun v11 => (fX11_hasSaid_3 n S a1 a2 a3 v11)) else none) else glet (a4 + (1 : Int32)) fun v8 => (fX11_hasSaid_3 n S a1 a2 a3 v8)) else glet (a4 + (1 : Int32)) fun v6 => (fX11_hasSaid_3 n S a1 a2 a3 v6))) else none))
set_option maxRecDepth 100000 in
set_option maxHeartbeats 4000000 in
theorem wX11_hasSaid_3 {p : Program} {l : Launch} {e : Env} {s : State} {m : MethodId} {args : Array Value} {below : List Frame} {meth : Method} {c : Code} {E : GE} {res : Int32} (hc : GM E p s m args meth c RX11 cX11_hasSaid 5 (some .boolean)) : ∀ (n : Nat), ∀ (S : GS) (a1 : Int32) (a2 : Int32) (a3 : Int32) (a4 : Int32) (H : Heap) (locs : List Loc) (ls : Array Slot), lv_has ls 5 [(0, gR E 54), (1, .int a1), (2, .int a2), (3, .int a3), (4, .int a4)] → GX E S H locs → fX11_hasSaid_3 n S a1 a2 a3 a4 = some res → W p l e rmX11_hasSaid s m args below meth c H locs 0 0 (gZ E below args s (some (.int res)) S) (F0 m 3 ls []) := by
  obtain ⟨hx, hb, -, -, -, hown, hts, -, -⟩ := id hc
  intro n
  induction n with
  | zero => intro S a1 a2 a3 a4 H locs ls hl hG h; cases h
  | succ n ih =>
    intro S a1 a2 a3 a4 H locs ls hl hG h
    rw [fX11_hasSaid_3] at h
    refine lv_iload hx hb dX11_hasSaid_3 (lv_at hl 4 rfl) ?_
    refine lv_aload_n hx hb dX11_hasSaid_5 rfl (lv_at hl 0 rfl) ?_
    refine g_getI hc hG 54 flX11_282 rfl rfl dX11_hasSaid_6 ?_
    refine lv_icmp_ge (tgt := 82) hx hb dX11_hasSaid_9 (by decide) (fun c1 => ?_) (fun c1 => ?_)
    · have h := g_pos c1 h
      refine lv_iconst (v := (0 : Int32)) hx hb dX11_hasSaid_82 (by decide) ?_
      exact g_zretp hc hG (Or.inl rfl) dX11_hasSaid_83 h
    · have h := g_neg c1 h
      refine lv_aload_n hx hb dX11_hasSaid_12 rfl (lv_at hl 0 rfl) ?_
      refine g_getR hc hG 54 78 flX11_88 rfl rfl rfl dX11_hasSaid_13 ?_
      refine lv_iload hx hb dX11_hasSaid_16 (lv_at hl 4 rfl) ?_
      obtain ⟨hi2, h⟩ := g_if h
      refine g_zald hc hG 78 120 (a4.toNatClampNeg) rfl rfl hi2 rfl dX11_hasSaid_18 ?_
      refine lv_if_eq (tgt := 76) hx hb dX11_hasSaid_19 (by decide) (fun c3 => ?_) (fun c3 => ?_)
      · have h := g_pos c3 h
        obtain ⟨v4, ev4⟩ : ∃ y : Int32, y = (a4 + (1 : Int32)) := ⟨_, rfl⟩
        have h := g_let ev4 h
        refine lv_iinc (v := v4) (lv' := [(4, .int v4), (0, gR E 54), (1, .int a1), (2, .int a2), (3, .int a3)]) hx hb dX11_hasSaid_76 hl (k := 4) rfl (by rw [ev4]; rfl) (by decide) rfl (fun ls hl => ?_)
        refine lv_goto (tgt := 3) hx hb dX11_hasSaid_79 (by decide) ?_
        exact ih S a1 a2 a3 v4 _ _ _ (lv_sub hl [1, 2, 3, 4, 0] rfl) hG h
      · have h := g_neg c3 h
        refine lv_aload_n hx hb dX11_hasSaid_22 rfl (lv_at hl 0 rfl) ?_
        refine g_getR hc hG 54 71 flX11_67 rfl rfl rfl dX11_hasSaid_23 ?_
        refine lv_iload hx hb dX11_hasSaid_26 (lv_at hl 4 rfl) ?_
        refine g_iald hc hG 71 120 (a4.toNatClampNeg) rfl rfl hi2 rfl dX11_hasSaid_28 ?_
        refine lv_iconst (v := (1 : Int32)) hx hb dX11_hasSaid_29 (by decide) ?_
        refine lv_icmp_ne (tgt := 76) hx hb dX11_hasSaid_30 (by decide) (fun c5 => ?_) (fun c5 => ?_)
        · have h := g_neg c5 h
          obtain ⟨v6, ev6⟩ : ∃ y : Int32, y = (a4 + (1 : Int32)) := ⟨_, rfl⟩
          have h := g_let ev6 h
          refine lv_iinc (v := v6) (lv' := [(4, .int v6), (0, gR E 54), (1, .int a1), (2, .int a2), (3, .int a3)]) hx hb dX11_hasSaid_76 hl (k := 4) rfl (by rw [ev6]; rfl) (by decide) rfl (fun ls hl => ?_)
          refine lv_goto (tgt := 3) hx hb dX11_hasSaid_79 (by decide) ?_
          exact ih S a1 a2 a3 v6 _ _ _ (lv_sub hl [1, 2, 3, 4, 0] rfl) hG h
        · have h := g_pos c5 h
          refine lv_aload_n hx hb dX11_hasSaid_33 rfl (lv_at hl 0 rfl) ?_
          refine g_getR hc hG 54 73 flX11_73 rfl rfl rfl dX11_hasSaid_34 ?_
          refine lv_iload hx hb dX11_hasSaid_37 (lv_at hl 4 rfl) ?_
          refine g_iald hc hG 73 120 (a4.toNatClampNeg) rfl rfl hi2 rfl dX11_hasSaid_39 ?_
          refine lv_iload_n hx hb dX11_hasSaid_40 rfl (lv_at hl 1 rfl) ?_
          refine lv_icmp_ne (tgt := 76) hx hb dX11_hasSaid_41 (by decide) (fun c7 => ?_) (fun c7 => ?_)
          · have h := g_neg c7 h
            obtain ⟨v8, ev8⟩ : ∃ y : Int32, y = (a4 + (1 : Int32)) := ⟨_, rfl⟩
            have h := g_let ev8 h
            refine lv_iinc (v := v8) (lv' := [(4, .int v8), (0, gR E 54), (1, .int a1), (2, .int a2), (3, .int a3)]) hx hb dX11_hasSaid_76 hl (k := 4) rfl (by rw [ev8]; rfl) (by decide) rfl (fun ls hl => ?_)
            refine lv_goto (tgt := 3) hx hb dX11_hasSaid_79 (by decide) ?_
            exact ih S a1 a2 a3 v8 _ _ _ (lv_sub hl [1, 2, 3, 4, 0] rfl) hG h
          · have h := g_pos c7 h
            refine lv_aload_n hx hb dX11_hasSaid_44 rfl (lv_at hl 0 rfl) ?_
            refine g_getR hc hG 54 79 flX11_91 rfl rfl rfl dX11_hasSaid_45 ?_
            refine lv_aload_n hx hb dX11_hasSaid_48 rfl (lv_at hl 0 rfl) ?_
            refine g_getR hc hG 54 75 flX11_79 rfl rfl rfl dX11_hasSaid_49 ?_
            refine lv_iload hx hb dX11_hasSaid_52 (lv_at hl 4 rfl) ?_
            refine g_iald hc hG 75 120 (a4.toNatClampNeg) rfl rfl hi2 rfl dX11_hasSaid_54 ?_
            obtain ⟨hi9, h⟩ := g_if h
            refine g_iald hc hG 79 12 (((S.1 75 a4.toNatClampNeg)).toNatClampNeg) rfl rfl hi9 rfl dX11_hasSaid_55 ?_
            refine lv_iload_n hx hb dX11_hasSaid_56 rfl (lv_at hl 2 rfl) ?_
            refine lv_icmp_ne (tgt := 76) hx hb dX11_hasSaid_57 (by decide) (fun c10 => ?_) (fun c10 => ?_)
            · have h := g_neg c10 h
              obtain ⟨v11, ev11⟩ : ∃ y : Int32, y = (a4 + (1 : Int32)) := ⟨_, rfl⟩
              have h := g_let ev11 h
              refine lv_iinc (v := v11) (lv' := [(4, .int v11), (0, gR E 54), (1, .int a1), (2, .int a2), (3, .int a3)]) hx hb dX11_hasSaid_76 hl (k := 4) rfl (by rw [ev11]; rfl) (by decide) rfl (fun ls hl => ?_)
              refine lv_goto (tgt := 3) hx hb dX11_hasSaid_79 (by decide) ?_
              exact ih S a1 a2 a3 v11 _ _ _ (lv_sub hl [1, 2, 3, 4, 0] rfl) hG h
            · have h := g_pos c10 h
              refine lv_aload_n hx hb dX11_hasSaid_60 rfl (lv_at hl 0 rfl) ?_
              refine g_getR hc hG 54 76 flX11_82 rfl rfl rfl dX11_hasSaid_61 ?_
              refine lv_iload hx hb dX11_hasSaid_64 (lv_at hl 4 rfl) ?_
              refine g_iald hc hG 76 120 (a4.toNatClampNeg) rfl rfl hi2 rfl dX11_hasSaid_66 ?_
              refine lv_iload_n hx hb dX11_hasSaid_67 rfl (lv_at hl 3 rfl) ?_
              refine lv_iconst (v := (-1 : Int32)) hx hb dX11_hasSaid_68 (by decide) ?_
              refine lv_ixor hx hb dX11_hasSaid_69 ?_
              refine lv_iand hx hb dX11_hasSaid_70 ?_
              refine lv_if_ne (tgt := 76) hx hb dX11_hasSaid_71 (by decide) (fun c12 => ?_) (fun c12 => ?_)
              · have h := g_neg c12 h
                obtain ⟨v13, ev13⟩ : ∃ y : Int32, y = (a4 + (1 : Int32)) := ⟨_, rfl⟩
                have h := g_let ev13 h
                refine lv_iinc (v := v13) (lv' := [(4, .int v13), (0, gR E 54), (1, .int a1), (2, .int a2), (3, .int a3)]) hx hb dX11_hasSaid_76 hl (k := 4) rfl (by rw [ev13]; rfl) (by decide) rfl (fun ls hl => ?_)
                refine lv_goto (tgt := 3) hx hb dX11_hasSaid_79 (by decide) ?_
                exact ih S a1 a2 a3 v13 _ _ _ (lv_sub hl [1, 2, 3, 4, 0] rfl) hG h
              · have h := g_pos c12 h
                refine lv_iconst (v := (1 : Int32)) hx hb dX11_hasSaid_74 (by decide) ?_
                exact g_zretp hc hG (Or.inr rfl) dX11_hasSaid_75 h
def fX11_hasSaid (S : GS) (a1 : Int32) (a2 : Int32) (a3 : Int32) : Option Int32 := glet (0 : Int32) fun v1 => (fX11_hasSaid_3 FU S a1 a2 a3 v1)
set_option maxRecDepth 100000 in
set_option maxHeartbeats 4000000 in
theorem wX11_hasSaid_0 {p : Program} {l : Launch} {e : Env} {s : State} {m : MethodId} {args : Array Value} {below : List Frame} {meth : Method} {c : Code} {E : GE} {res : Int32} (hc : GM E p s m args meth c RX11 cX11_hasSaid 5 (some .boolean)) : ∀ (S : GS) (a1 : Int32) (a2 : Int32) (a3 : Int32) (H : Heap) (locs : List Loc) (ls : Array Slot), lv_has ls 5 [(0, gR E 54), (1, .int a1), (2, .int a2), (3, .int a3)] → GX E S H locs → fX11_hasSaid S a1 a2 a3 = some res → W p l e rmX11_hasSaid s m args below meth c H locs 0 0 (gZ E below args s (some (.int res)) S) (F0 m 0 ls []) := by
  obtain ⟨hx, hb, -, -, -, hown, hts, -, -⟩ := id hc
  intro S a1 a2 a3 H locs ls hl hG h
  unfold fX11_hasSaid at h
  refine lv_iconst (v := (0 : Int32)) hx hb dX11_hasSaid_0 (by decide) ?_
  refine lv_topi (fun v1 ev1 => ?_)
  have h := g_let ev1 h
  refine lv_istore (lv' := [(4, .int v1), (0, gR E 54), (1, .int a1), (2, .int a2), (3, .int a3)]) hx hb dX11_hasSaid_1 hl (by decide) rfl (fun ls hl => ?_)
  exact wX11_hasSaid_3 hc FU S a1 a2 a3 v1 _ _ _ (lv_sub hl [1, 2, 3, 4, 0] rfl) hG h
theorem mX11_hasSaid (l : Launch) (E : GE) {S : GS} {a1 : Int32} {a2 : Int32} {a3 : Int32} {res : Int32} (h : fX11_hasSaid S a1 a2 a3 = some res) : gMet l E yX11_hasSaid cX11_hasSaid 5 (some .boolean) rmX11_hasSaid [gR E 54, .int a1, .int a2, .int a3] S (some (.int res)) S :=
  g_met (by decide) (Nat.le_of_ble_eq_true rfl) rfl fun p e s m below meth c H ls hc hG hl => wX11_hasSaid_0 hc S a1 a2 a3 H [] ls hl hG h
abbrev rmX11_standOf : Room := { frames := 5, cells := 0, slots := 0, locals := 121 }
def fX11_standOf_221 (k31 : GS → Int32 → Int32 → Int32 → Int32 → Int32 → Int32 → Int32 → Option (Int32 × GS)) (S : GS) (a1 : Int32) (a2 : Int32) (a3 : Int32) (a4 : Int32) (a5 : Int32) (a6 : Int32) (a7 : Int32) (a8 : Int32) : Option (Int32 × GS) := gbv (fX11_isBefore S a8 a6) fun r2 => (if r2 = 0 then glet (a7 + (1 : Int32)) fun v4 => (k31 S a1 a2 a3 a4 a5 a8 v4) else glet (a7 + (1 : Int32)) fun v5 => (k31 S a1 a2 a3 a4 a5 a6 v5))
set_option maxRecDepth 100000 in
set_option maxHeartbeats 4000000 in
theorem wX11_standOf_221 {p : Program} {l : Launch} {e : Env} {s : State} {m : MethodId} {args : Array Value} {below : List Frame} {meth : Method} {c : Code} {E : GE} {res : (Int32 × GS)} {k31 : GS → Int32 → Int32 → Int32 → Int32 → Int32 → Int32 → Int32 → Option (Int32 × GS)} (hc : GM E p s m args meth c RX11 cX11_standOf 10 (some .int)) (hk31 : ∀ (S : GS) (a1 : Int32) (a2 : Int32) (a3 : Int32) (a4 : Int32) (a5 : Int32) (a6 : Int32) (a7 : Int32) (H : Heap) (locs : List Loc) (ls : Array Slot), lv_has ls 10 [(0, gR E 54), (1, .int a1), (2, .int a2), (3, .int a3), (4, .int a4), (5, .int a5), (6, .int a6), (7, .int a7)] → GX E S H locs → k31 S a1 a2 a3 a4 a5 a6 a7 = some res → W p l e rmX11_standOf s m args below meth c H locs 0 0 (gZ E below args s (some (.int res.1)) res.2) (F0 m 31 ls [])) : ∀ (S : GS) (a1 : Int32) (a2 : Int32) (a3 : Int32) (a4 : Int32) (a5 : Int32) (a6 : Int32) (a7 : Int32) (a8 : Int32) (H : Heap) (locs : List Loc) (ls : Array Slot), lv_has ls 10 [(0, gR E 54), (1, .int a1), (2, .int a2), (3, .int a3), (4, .int a4), (5, .int a5), (6, .int a6), (7, .int a7), (8, .int a8)] → GX E S H locs → fX11_standOf_221 k31 S a1 a2 a3 a4 a5 a6 a7 a8 = some res → W p l e rmX11_standOf s m args below meth c H locs 0 0 (gZ E below args s (some (.int res.1)) res.2) (F0 m 221 ls []) := by
  obtain ⟨hx, hb, -, -, -, hown, hts, -, -⟩ := id hc
  intro S a1 a2 a3 a4 a5 a6 a7 a8 H locs ls hl hG h
  unfold fX11_standOf_221 at h
  refine lv_aload_n hx hb dX11_standOf_221 rfl (lv_at hl 0 rfl) ?_
  refine lv_iload hx hb dX11_standOf_222 (lv_at hl 8 rfl) ?_
  refine lv_iload hx hb dX11_standOf_224 (lv_at hl 6 rfl) ?_
  obtain ⟨r2, hm1, h⟩ := g_bv h
  refine g_callVi (As := [.int a8, .int a6]) hc hG (mX11_isBefore l E hm1) mlX11_369 mcX11_isBefore miX11_isBefore rfl rfl rfl rfl hl.1 rfl rfl ⟨by decide, by decide⟩ (Nat.le_of_ble_eq_true rfl) ⟨by decide, by decide⟩ dX11_standOf_226 rfl (fun H locs hG => ?_)
  refine lv_if_eq (tgt := 237) hx hb dX11_standOf_229 (by decide) (fun c3 => ?_) (fun c3 => ?_)
  · have h := g_pos c3 h
    refine lv_iload hx hb dX11_standOf_237 (lv_at hl 8 rfl) ?_
    refine lv_istore (lv' := [(6, .int a8), (0, gR E 54), (1, .int a1), (2, .int a2), (3, .int a3), (4, .int a4), (5, .int a5), (7, .int a7), (8, .int a8)]) hx hb dX11_standOf_239 hl (by decide) rfl (fun ls hl => ?_)
    obtain ⟨v4, ev4⟩ : ∃ y : Int32, y = (a7 + (1 : Int32)) := ⟨_, rfl⟩
    have h := g_let ev4 h
    refine lv_iinc (v := v4) (lv' := [(7, .int v4), (6, .int a8), (0, gR E 54), (1, .int a1), (2, .int a2), (3, .int a3), (4, .int a4), (5, .int a5), (8, .int a8)]) hx hb dX11_standOf_241 hl (k := 7) rfl (by rw [ev4]; rfl) (by decide) rfl (fun ls hl => ?_)
    refine lv_goto (tgt := 31) hx hb dX11_standOf_244 (by decide) ?_
    exact hk31 S a1 a2 a3 a4 a5 a8 v4 _ _ _ (lv_sub hl [2, 3, 4, 5, 6, 7, 1, 0] rfl) hG h
  · have h := g_neg c3 h
    refine lv_iload hx hb dX11_standOf_232 (lv_at hl 6 rfl) ?_
    refine lv_goto (tgt := 239) hx hb dX11_standOf_234 (by decide) ?_
    refine lv_istore (lv' := [(6, .int a6), (0, gR E 54), (1, .int a1), (2, .int a2), (3, .int a3), (4, .int a4), (5, .int a5), (7, .int a7), (8, .int a8)]) hx hb dX11_standOf_239 hl (by decide) rfl (fun ls hl => ?_)
    obtain ⟨v5, ev5⟩ : ∃ y : Int32, y = (a7 + (1 : Int32)) := ⟨_, rfl⟩
    have h := g_let ev5 h
    refine lv_iinc (v := v5) (lv' := [(7, .int v5), (6, .int a6), (0, gR E 54), (1, .int a1), (2, .int a2), (3, .int a3), (4, .int a4), (5, .int a5), (8, .int a8)]) hx hb dX11_standOf_241 hl (k := 7) rfl (by rw [ev5]; rfl) (by decide) rfl (fun ls hl => ?_)
    refine lv_goto (tgt := 31) hx hb dX11_standOf_244 (by decide) ?_
    exact hk31 S a1 a2 a3 a4 a5 a6 v5 _ _ _ (lv_sub hl [2, 3, 4, 5, 6, 7, 1, 0] rfl) hG h
def fX11_standOf_194 (k31 : GS → Int32 → Int32 → Int32 → Int32 → Int32 → Int32 → Int32 → Option (Int32 × GS)) (S : GS) (a1 : Int32) (a2 : Int32) (a3 : Int32) (a4 : Int32) (a5 : Int32) (a6 : Int32) (a7 : Int32) (a8 : Int32) (a9 : Int32) : Option (Int32 × GS) := (if a9 = 0 then gbv (fX11_votes S a8 a1 a3) fun r3 => (if 0 < r3 then (fX11_standOf_221 k31 S a1 a2 a3 a4 a5 a6 a7 a8) else gbv (fX11_hasSaid S a8 a1 a3) fun r6 => (if r6 = 0 then glet (a7 + (1 : Int32)) fun v8 => (k31 S a1 a2 a3 a4 a5 a6 v8) else (fX11_standOf_221 k31 S a1 a2 a3 a4 a5 a6 a7 a8))) else (fX11_standOf_221 k31 S a1 a2 a3 a4 a5 a6 a7 a8))
set_option maxRecDepth 100000 in
set_option maxHeartbeats 4000000 in
theorem wX11_standOf_194 {p : Program} {l : Launch} {e : Env} {s : State} {m : MethodId} {args : Array Value} {below : List Frame} {meth : Method} {c : Code} {E : GE} {res : (Int32 × GS)} {k31 : GS → Int32 → Int32 → Int32 → Int32 → Int32 → Int32 → Int32 → Option (Int32 × GS)} (hc : GM E p s m args meth c RX11 cX11_standOf 10 (some .int)) (hk31 : ∀ (S : GS) (a1 : Int32) (a2 : Int32) (a3 : Int32) (a4 : Int32) (a5 : Int32) (a6 : Int32) (a7 : Int32) (H : Heap) (locs : List Loc) (ls : Array Slot), lv_has ls 10 [(0, gR E 54), (1, .int a1), (2, .int a2), (3, .int a3), (4, .int a4), (5, .int a5), (6, .int a6), (7, .int a7)] → GX E S H locs → k31 S a1 a2 a3 a4 a5 a6 a7 = some res → W p l e rmX11_standOf s m args below meth c H locs 0 0 (gZ E below args s (some (.int res.1)) res.2) (F0 m 31 ls [])) : ∀ (S : GS) (a1 : Int32) (a2 : Int32) (a3 : Int32) (a4 : Int32) (a5 : Int32) (a6 : Int32) (a7 : Int32) (a8 : Int32) (a9 : Int32) (H : Heap) (locs : List Loc) (ls : Array Slot), lv_has ls 10 [(0, gR E 54), (1, .int a1), (2, .int a2), (3, .int a3), (4, .int a4), (5, .int a5), (6, .int a6), (7, .int a7), (8, .int a8), (9, .int a9)] → GX E S H locs → fX11_standOf_194 k31 S a1 a2 a3 a4 a5 a6 a7 a8 a9 = some res → W p l e rmX11_standOf s m args below meth c H locs 0 0 (gZ E below args s (some (.int res.1)) res.2) (F0 m 194 ls []) := by
  obtain ⟨hx, hb, -, -, -, hown, hts, -, -⟩ := id hc
  intro S a1 a2 a3 a4 a5 a6 a7 a8 a9 H locs ls hl hG h
  unfold fX11_standOf_194 at h
  refine lv_iload hx hb dX11_standOf_194 (lv_at hl 9 rfl) ?_
  refine lv_if_ne (tgt := 221) hx hb dX11_standOf_196 (by decide) (fun c1 => ?_) (fun c1 => ?_)
  · have h := g_neg c1 h
    exact wX11_standOf_221 hc hk31 S a1 a2 a3 a4 a5 a6 a7 a8 _ _ _ (lv_sub hl [0, 1, 2, 3, 4, 5, 6, 7, 8] rfl) hG h
  · have h := g_pos c1 h
    refine lv_aload_n hx hb dX11_standOf_199 rfl (lv_at hl 0 rfl) ?_
    refine lv_iload hx hb dX11_standOf_200 (lv_at hl 8 rfl) ?_
    refine lv_iload_n hx hb dX11_standOf_202 rfl (lv_at hl 1 rfl) ?_
    refine lv_iload_n hx hb dX11_standOf_203 rfl (lv_at hl 3 rfl) ?_
    obtain ⟨r3, hm2, h⟩ := g_bv h
    refine g_callVi (As := [.int a8, .int a1, .int a3]) hc hG (mX11_votes l E hm2) mlX11_318 mcX11_votes miX11_votes rfl rfl rfl rfl hl.1 rfl rfl ⟨by decide, by decide⟩ (Nat.le_of_ble_eq_true rfl) ⟨by decide, by decide⟩ dX11_standOf_204 rfl (fun H locs hG => ?_)
    refine lv_if_gt (tgt := 221) hx hb dX11_standOf_207 (by decide) (fun c4 => ?_) (fun c4 => ?_)
    · have h := g_pos c4 h
      exact wX11_standOf_221 hc hk31 S a1 a2 a3 a4 a5 a6 a7 a8 _ _ _ (lv_sub hl [0, 1, 2, 3, 4, 5, 6, 7, 8] rfl) hG h
    · have h := g_neg c4 h
      refine lv_aload_n hx hb dX11_standOf_210 rfl (lv_at hl 0 rfl) ?_
      refine lv_iload hx hb dX11_standOf_211 (lv_at hl 8 rfl) ?_
      refine lv_iload_n hx hb dX11_standOf_213 rfl (lv_at hl 1 rfl) ?_
      refine lv_iload_n hx hb dX11_standOf_214 rfl (lv_at hl 3 rfl) ?_
      obtain ⟨r6, hm5, h⟩ := g_bv h
      refine g_callVi (As := [.int a8, .int a1, .int a3]) hc hG (mX11_hasSaid l E hm5) mlX11_372 mcX11_hasSaid miX11_hasSaid rfl rfl rfl rfl hl.1 rfl rfl ⟨by decide, by decide⟩ (Nat.le_of_ble_eq_true rfl) ⟨by decide, by decide⟩ dX11_standOf_215 rfl (fun H locs hG => ?_)
      refine lv_if_eq (tgt := 241) hx hb dX11_standOf_218 (by decide) (fun c7 => ?_) (fun c7 => ?_)
      · have h := g_pos c7 h
        obtain ⟨v8, ev8⟩ : ∃ y : Int32, y = (a7 + (1 : Int32)) := ⟨_, rfl⟩
        have h := g_let ev8 h
        refine lv_iinc (v := v8) (lv' := [(7, .int v8), (0, gR E 54), (1, .int a1), (2, .int a2), (3, .int a3), (4, .int a4), (5, .int a5), (6, .int a6), (8, .int a8), (9, .int a9)]) hx hb dX11_standOf_241 hl (k := 7) rfl (by rw [ev8]; rfl) (by decide) rfl (fun ls hl => ?_)
        refine lv_goto (tgt := 31) hx hb dX11_standOf_244 (by decide) ?_
        exact hk31 S a1 a2 a3 a4 a5 a6 v8 _ _ _ (lv_sub hl [1, 2, 3, 4, 5, 6, 7, 0] rfl) hG h
      · have h := g_neg c7 h
        exact wX11_standOf_221 hc hk31 S a1 a2 a3 a4 a5 a6 a7 a8 _ _ _ (lv_sub hl [0, 1, 2, 3, 4, 5, 6, 7, 8] rfl) hG h
def fX11_standOf_169 (k31 : GS → Int32 → Int32 → Int32 → Int32 → Int32 → Int32 → Int32 → Option (Int32 × GS)) (S : GS) (t0 : Int32) (a1 : Int32) (a2 : Int32) (a3 : Int32) (a5 : Int32) (a6 : Int32) (a7 : Int32) (a8 : Int32) (a9 : Int32) : Option (Int32 × GS) := (fX11_standOf_194 k31 S a1 a2 a3 t0 a5 a6 a7 a8 a9)
set_option maxRecDepth 100000 in
set_option maxHeartbeats 4000000 in
theorem wX11_standOf_169 {p : Program} {l : Launch} {e : Env} {s : State} {m : MethodId} {args : Array Value} {below : List Frame} {meth : Method} {c : Code} {E : GE} {res : (Int32 × GS)} {k31 : GS → Int32 → Int32 → Int32 → Int32 → Int32 → Int32 → Int32 → Option (Int32 × GS)} (hc : GM E p s m args meth c RX11 cX11_standOf 10 (some .int)) (hk31 : ∀ (S : GS) (a1 : Int32) (a2 : Int32) (a3 : Int32) (a4 : Int32) (a5 : Int32) (a6 : Int32) (a7 : Int32) (H : Heap) (locs : List Loc) (ls : Array Slot), lv_has ls 10 [(0, gR E 54), (1, .int a1), (2, .int a2), (3, .int a3), (4, .int a4), (5, .int a5), (6, .int a6), (7, .int a7)] → GX E S H locs → k31 S a1 a2 a3 a4 a5 a6 a7 = some res → W p l e rmX11_standOf s m args below meth c H locs 0 0 (gZ E below args s (some (.int res.1)) res.2) (F0 m 31 ls [])) : ∀ (S : GS) (t0 : Int32) (a1 : Int32) (a2 : Int32) (a3 : Int32) (a5 : Int32) (a6 : Int32) (a7 : Int32) (a8 : Int32) (a9 : Int32) (H : Heap) (locs : List Loc) (ls : Array Slot), lv_has ls 10 [(0, gR E 54), (1, .int a1), (2, .int a2), (3, .int a3), (5, .int a5), (6, .int a6), (7, .int a7), (8, .int a8), (9, .int a9)] → GX E S H locs → fX11_standOf_169 k31 S t0 a1 a2 a3 a5 a6 a7 a8 a9 = some res → W p l e rmX11_standOf s m args below meth c H locs 0 0 (gZ E below args s (some (.int res.1)) res.2) (F0 m 169 ls [.int t0]) := by
  obtain ⟨hx, hb, -, -, -, hown, hts, -, -⟩ := id hc
  intro S t0 a1 a2 a3 a5 a6 a7 a8 a9 H locs ls hl hG h
  unfold fX11_standOf_169 at h
  refine lv_istore (lv' := [(4, .int t0), (0, gR E 54), (1, .int a1), (2, .int a2), (3, .int a3), (5, .int a5), (6, .int a6), (7, .int a7), (8, .int a8), (9, .int a9)]) hx hb dX11_standOf_169 hl (by decide) rfl (fun ls hl => ?_)
  refine lv_goto (tgt := 194) hx hb dX11_standOf_171 (by decide) ?_
  exact wX11_standOf_194 hc hk31 S a1 a2 a3 t0 a5 a6 a7 a8 a9 _ _ _ (lv_sub hl [1, 2, 3, 4, 0, 5, 6, 7, 8, 9] rfl) hG h
def fX11_standOf_192 (k31 : GS → Int32 → Int32 → Int32 → Int32 → Int32 → Int32 → Int32 → Option (Int32 × GS)) (S : GS) (t0 : Int32) (a1 : Int32) (a2 : Int32) (a3 : Int32) (a4 : Int32) (a6 : Int32) (a7 : Int32) (a8 : Int32) (a9 : Int32) : Option (Int32 × GS) := (fX11_standOf_194 k31 S a1 a2 a3 a4 t0 a6 a7 a8 a9)
set_option maxRecDepth 100000 in
set_option maxHeartbeats 4000000 in
theorem wX11_standOf_192 {p : Program} {l : Launch} {e : Env} {s : State} {m : MethodId} {args : Array Value} {below : List Frame} {meth : Method} {c : Code} {E : GE} {res : (Int32 × GS)} {k31 : GS → Int32 → Int32 → Int32 → Int32 → Int32 → Int32 → Int32 → Option (Int32 × GS)} (hc : GM E p s m args meth c RX11 cX11_standOf 10 (some .int)) (hk31 : ∀ (S : GS) (a1 : Int32) (a2 : Int32) (a3 : Int32) (a4 : Int32) (a5 : Int32) (a6 : Int32) (a7 : Int32) (H : Heap) (locs : List Loc) (ls : Array Slot), lv_has ls 10 [(0, gR E 54), (1, .int a1), (2, .int a2), (3, .int a3), (4, .int a4), (5, .int a5), (6, .int a6), (7, .int a7)] → GX E S H locs → k31 S a1 a2 a3 a4 a5 a6 a7 = some res → W p l e rmX11_standOf s m args below meth c H locs 0 0 (gZ E below args s (some (.int res.1)) res.2) (F0 m 31 ls [])) : ∀ (S : GS) (t0 : Int32) (a1 : Int32) (a2 : Int32) (a3 : Int32) (a4 : Int32) (a6 : Int32) (a7 : Int32) (a8 : Int32) (a9 : Int32) (H : Heap) (locs : List Loc) (ls : Array Slot), lv_has ls 10 [(0, gR E 54), (1, .int a1), (2, .int a2), (3, .int a3), (4, .int a4), (6, .int a6), (7, .int a7), (8, .int a8), (9, .int a9)] → GX E S H locs → fX11_standOf_192 k31 S t0 a1 a2 a3 a4 a6 a7 a8 a9 = some res → W p l e rmX11_standOf s m args below meth c H locs 0 0 (gZ E below args s (some (.int res.1)) res.2) (F0 m 192 ls [.int t0]) := by
  obtain ⟨hx, hb, -, -, -, hown, hts, -, -⟩ := id hc
  intro S t0 a1 a2 a3 a4 a6 a7 a8 a9 H locs ls hl hG h
  unfold fX11_standOf_192 at h
  refine lv_istore (lv' := [(5, .int t0), (0, gR E 54), (1, .int a1), (2, .int a2), (3, .int a3), (4, .int a4), (6, .int a6), (7, .int a7), (8, .int a8), (9, .int a9)]) hx hb dX11_standOf_192 hl (by decide) rfl (fun ls hl => ?_)
  exact wX11_standOf_194 hc hk31 S a1 a2 a3 a4 t0 a6 a7 a8 a9 _ _ _ (lv_sub hl [1, 2, 3, 4, 5, 0, 6, 7, 8, 9] rfl) hG h
def fX11_standOf_272 (S : GS) (t1 : Int32) (a4 : Int32) (a5 : Int32) (a6 : Int32) : Option (Int32 × GS) := glet (gsi S 54 60 t1) fun S1 => (if a4 = (-1 : Int32) then (if a5 = (-1 : Int32) then (if a6 = (-1 : Int32) then (some ((0 : Int32), S1)) else (some ((1 : Int32), S1))) else (some ((2 : Int32), S1))) else (some ((3 : Int32), S1)))
set_option maxRecDepth 100000 in
set_option maxHeartbeats 4000000 in
theorem wX11_standOf_272 {p : Program} {l : Launch} {e : Env} {s : State} {m : MethodId} {args : Array Value} {below : List Frame} {meth : Method} {c : Code} {E : GE} {res : (Int32 × GS)} (hc : GM E p s m args meth c RX11 cX11_standOf 10 (some .int)) : ∀ (S : GS) (t1 : Int32) (a4 : Int32) (a5 : Int32) (a6 : Int32) (H : Heap) (locs : List Loc) (ls : Array Slot), lv_has ls 10 [(4, .int a4), (5, .int a5), (6, .int a6)] → GX E S H locs → fX11_standOf_272 S t1 a4 a5 a6 = some res → W p l e rmX11_standOf s m args below meth c H locs 0 0 (gZ E below args s (some (.int res.1)) res.2) (F0 m 272 ls [.int t1, gR E 54]) := by
  obtain ⟨hx, hb, -, -, -, hown, hts, -, -⟩ := id hc
  intro S t1 a4 a5 a6 H locs ls hl hG h
  unfold fX11_standOf_272 at h
  refine g_putI hc hG 54 fpX11_366 rfl rfl rfl rfl dX11_standOf_272 (fun S1 H locs eS1 hG => ?_)
  have h := g_let eS1 h
  refine lv_iload hx hb dX11_standOf_275 (lv_at hl 0 rfl) ?_
  refine lv_iconst (v := (-1 : Int32)) hx hb dX11_standOf_277 (by decide) ?_
  refine lv_icmp_eq (tgt := 285) hx hb dX11_standOf_278 (by decide) (fun c2 => ?_) (fun c2 => ?_)
  · have h := g_pos c2 h
    refine lv_iload hx hb dX11_standOf_285 (lv_at hl 1 rfl) ?_
    refine lv_iconst (v := (-1 : Int32)) hx hb dX11_standOf_287 (by decide) ?_
    refine lv_icmp_eq (tgt := 295) hx hb dX11_standOf_288 (by decide) (fun c3 => ?_) (fun c3 => ?_)
    · have h := g_pos c3 h
      refine lv_iload hx hb dX11_standOf_295 (lv_at hl 2 rfl) ?_
      refine lv_iconst (v := (-1 : Int32)) hx hb dX11_standOf_297 (by decide) ?_
      refine lv_icmp_eq (tgt := 305) hx hb dX11_standOf_298 (by decide) (fun c4 => ?_) (fun c4 => ?_)
      · have h := g_pos c4 h
        refine lv_iconst (v := (0 : Int32)) hx hb dX11_standOf_305 (by decide) ?_
        exact g_iret hc hG dX11_standOf_306 h
      · have h := g_neg c4 h
        refine lv_iconst (v := (1 : Int32)) hx hb dX11_standOf_301 (by decide) ?_
        refine lv_goto (tgt := 306) hx hb dX11_standOf_302 (by decide) ?_
        exact g_iret hc hG dX11_standOf_306 h
    · have h := g_neg c3 h
      refine lv_iconst (v := (2 : Int32)) hx hb dX11_standOf_291 (by decide) ?_
      refine lv_goto (tgt := 306) hx hb dX11_standOf_292 (by decide) ?_
      exact g_iret hc hG dX11_standOf_306 h
  · have h := g_neg c2 h
    refine lv_iconst (v := (3 : Int32)) hx hb dX11_standOf_281 (by decide) ?_
    refine lv_goto (tgt := 306) hx hb dX11_standOf_282 (by decide) ?_
    exact g_iret hc hG dX11_standOf_306 h
def fX11_standOf_31 : Nat → GS → Int32 → Int32 → Int32 → Int32 → Int32 → Int32 → Int32 → Option (Int32 × GS)
  | 0, _, _, _, _, _, _, _, _ => none
  | n + 1, S, a1, a2, a3, a4, a5, a6, a7 => (if (S.1 54 58) ≤ a7 then (if a4 = (-1 : Int32) then (if a5 = (-1 : Int32) then (fX11_standOf_272 S a6 a4 a5 a6) else (fX11_standOf_272 S a5 a4 a5 a6)) else (fX11_standOf_272 S a4 a4 a5 a6)) else (if gib a7 32 = true then glet (S.1 81 a7.toNatClampNeg) fun v5 => (if gib v5 32 = true then (if (S.1 85 v5.toNatClampNeg) = 0 then gbd (fX11_isOverruled S v5 a1 (S.1 54 58)) fun r10 S11 => (if r10 = 0 then gbv (fX11_isTaken S11 v5 a1 (S11.1 54 59)) fun r15 => (if r15 = 0 then gbd (fX11_isGood S11 v5 a1 a3 (S11.1 54 58) (S11.1 54 59)) fun r18 S19 => (if r18 = 0 then (fX11_standOf_194 (fX11_standOf_31 n) S19 a1 a2 a3 a4 a5 a6 a7 v5 r18) else gbd (fX11_isBinding S19 v5 a1 a2 a3 (S19.1 54 58) (S19.1 54 59)) fun r22 S23 => (if r22 = 0 then (fX11_standOf_194 (fX11_standOf_31 n) S23 a1 a2 a3 a4 a5 a6 a7 v5 r18) else gbv (fX11_doubts S23 v5 a1 (S23.1 54 58)) fun r26 => (if (S23.1 54 7) ≤ r26 then gbv (fX11_isBefore S23 v5 a5) fun r29 => (if r29 = 0 then (fX11_standOf_192 (fX11_standOf_31 n) S23 v5 a1 a2 a3 a4 a6 a7 v5 r18) else (fX11_standOf_192 (fX11_standOf_31 n) S23 a5 a1 a2 a3 a4 a6 a7 v5 r18)) else gbv (fX11_isBefore S23 v5 a4) fun r32 => (if r32 = 0 then (fX11_standOf_169 (fX11_standOf_31 n) S23 v5 a1 a2 a3 a5 a6 a7 v5 r18) else (fX11_standOf_169 (fX11_standOf_31 n) S23 a4 a1 a2 a3 a5 a6 a7 v5 r18))))) else glet (a7 + (1 : Int32)) fun v34 => (fX11_standOf_31 n S11 a1 a2 a3 a4 a5 a6 v34)) else glet (a7 + (1 : Int32)) fun v13 => (fX11_standOf_31 n S11 a1 a2 a3 a4 a5 a6 v13)) else glet (a7 + (1 : Int32)) fun v8 => (fX11_standOf_31 n S a1 a2 a3 a4 a5 a6 v8)) else none) else none))
set_option maxRecDepth 100000 in
set_option maxHeartbeats 4000000 in
theorem wX11_standOf_31 {p : Program} {l : Launch} {e : Env} {s : State} {m : MethodId} {args : Array Value} {below : List Frame} {meth : Method} {c : Code} {E : GE} {res : (Int32 × GS)} (hc : GM E p s m args meth c RX11 cX11_standOf 10 (some .int)) : ∀ (n : Nat), ∀ (S : GS) (a1 : Int32) (a2 : Int32) (a3 : Int32) (a4 : Int32) (a5 : Int32) (a6 : Int32) (a7 : Int32) (H : Heap) (locs : List Loc) (ls : Array Slot), lv_has ls 10 [(0, gR E 54), (1, .int a1), (2, .int a2), (3, .int a3), (4, .int a4), (5, .int a5), (6, .int a6), (7, .int a7)] → GX E S H locs → fX11_standOf_31 n S a1 a2 a3 a4 a5 a6 a7 = some res → W p l e rmX11_standOf s m args below meth c H locs 0 0 (gZ E below args s (some (.int res.1)) res.2) (F0 m 31 ls []) := by
  obtain ⟨hx, hb, -, -, -, hown, hts, -, -⟩ := id hc
  intro n
  induction n with
  | zero => intro S a1 a2 a3 a4 a5 a6 a7 H locs ls hl hG h; cases h
  | succ n ih =>
    intro S a1 a2 a3 a4 a5 a6 a7 H locs ls hl hG h
    rw [fX11_standOf_31] at h
    refine lv_iload hx hb dX11_standOf_31 (lv_at hl 7 rfl) ?_
    refine lv_aload_n hx hb dX11_standOf_33 rfl (lv_at hl 0 rfl) ?_
    refine g_getI hc hG 54 flX11_363 rfl rfl dX11_standOf_34 ?_
    refine lv_icmp_ge (tgt := 247) hx hb dX11_standOf_37 (by decide) (fun c1 => ?_) (fun c1 => ?_)
    · have h := g_pos c1 h
      refine lv_aload_n hx hb dX11_standOf_247 rfl (lv_at hl 0 rfl) ?_
      refine lv_iload hx hb dX11_standOf_248 (lv_at hl 4 rfl) ?_
      refine lv_iconst (v := (-1 : Int32)) hx hb dX11_standOf_250 (by decide) ?_
      refine lv_icmp_eq (tgt := 259) hx hb dX11_standOf_251 (by decide) (fun c2 => ?_) (fun c2 => ?_)
      · have h := g_pos c2 h
        refine lv_iload hx hb dX11_standOf_259 (lv_at hl 5 rfl) ?_
        refine lv_iconst (v := (-1 : Int32)) hx hb dX11_standOf_261 (by decide) ?_
        refine lv_icmp_eq (tgt := 270) hx hb dX11_standOf_262 (by decide) (fun c3 => ?_) (fun c3 => ?_)
        · have h := g_pos c3 h
          refine lv_iload hx hb dX11_standOf_270 (lv_at hl 6 rfl) ?_
          exact wX11_standOf_272 hc S a6 a4 a5 a6 _ _ _ (lv_sub hl [4, 5, 6] rfl) hG h
        · have h := g_neg c3 h
          refine lv_iload hx hb dX11_standOf_265 (lv_at hl 5 rfl) ?_
          refine lv_goto (tgt := 272) hx hb dX11_standOf_267 (by decide) ?_
          exact wX11_standOf_272 hc S a5 a4 a5 a6 _ _ _ (lv_sub hl [4, 5, 6] rfl) hG h
      · have h := g_neg c2 h
        refine lv_iload hx hb dX11_standOf_254 (lv_at hl 4 rfl) ?_
        refine lv_goto (tgt := 272) hx hb dX11_standOf_256 (by decide) ?_
        exact wX11_standOf_272 hc S a4 a4 a5 a6 _ _ _ (lv_sub hl [4, 5, 6] rfl) hG h
    · have h := g_neg c1 h
      refine lv_aload_n hx hb dX11_standOf_40 rfl (lv_at hl 0 rfl) ?_
      refine g_getR hc hG 54 81 flX11_97 rfl rfl rfl dX11_standOf_41 ?_
      refine lv_iload hx hb dX11_standOf_44 (lv_at hl 7 rfl) ?_
      obtain ⟨hi4, h⟩ := g_if h
      refine g_iald hc hG 81 32 (a7.toNatClampNeg) rfl rfl hi4 rfl dX11_standOf_46 ?_
      refine lv_topi (fun v5 ev5 => ?_)
      have h := g_let ev5 h
      refine lv_istore (lv' := [(8, .int v5), (0, gR E 54), (1, .int a1), (2, .int a2), (3, .int a3), (4, .int a4), (5, .int a5), (6, .int a6), (7, .int a7)]) hx hb dX11_standOf_47 hl (by decide) rfl (fun ls hl => ?_)
      refine lv_aload_n hx hb dX11_standOf_49 rfl (lv_at hl 1 rfl) ?_
      refine g_getR hc hG 54 85 flX11_109 rfl rfl rfl dX11_standOf_50 ?_
      refine lv_iload hx hb dX11_standOf_53 (lv_at hl 0 rfl) ?_
      obtain ⟨hi6, h⟩ := g_if h
      refine g_zald hc hG 85 32 (v5.toNatClampNeg) rfl rfl hi6 rfl dX11_standOf_55 ?_
      refine lv_if_ne (tgt := 241) hx hb dX11_standOf_56 (by decide) (fun c7 => ?_) (fun c7 => ?_)
      · have h := g_neg c7 h
        obtain ⟨v8, ev8⟩ : ∃ y : Int32, y = (a7 + (1 : Int32)) := ⟨_, rfl⟩
        have h := g_let ev8 h
        refine lv_iinc (v := v8) (lv' := [(7, .int v8), (8, .int v5), (0, gR E 54), (1, .int a1), (2, .int a2), (3, .int a3), (4, .int a4), (5, .int a5), (6, .int a6)]) hx hb dX11_standOf_241 hl (k := 8) rfl (by rw [ev8]; rfl) (by decide) rfl (fun ls hl => ?_)
        refine lv_goto (tgt := 31) hx hb dX11_standOf_244 (by decide) ?_
        exact ih S a1 a2 a3 a4 a5 a6 v8 _ _ _ (lv_sub hl [2, 3, 4, 5, 6, 7, 8, 0] rfl) hG h
      · have h := g_pos c7 h
        refine lv_aload_n hx hb dX11_standOf_59 rfl (lv_at hl 1 rfl) ?_
        refine lv_iload hx hb dX11_standOf_60 (lv_at hl 0 rfl) ?_
        refine lv_iload_n hx hb dX11_standOf_62 rfl (lv_at hl 2 rfl) ?_
        refine lv_aload_n hx hb dX11_standOf_63 rfl (lv_at hl 1 rfl) ?_
        refine g_getI hc hG 54 flX11_363 rfl rfl dX11_standOf_64 ?_
        obtain ⟨r10, S11, hm9, h⟩ := g_bd h
        refine g_callVi (As := [.int v5, .int a1, .int (S.1 54 58)]) hc hG (mX11_isOverruled l E hm9) mlX11_336 mcX11_isOverruled miX11_isOverruled rfl rfl rfl rfl hl.1 rfl rfl ⟨by decide, by decide⟩ (Nat.le_of_ble_eq_true rfl) ⟨by decide, by decide⟩ dX11_standOf_67 rfl (fun H locs hG => ?_)
        refine lv_if_ne (tgt := 241) hx hb dX11_standOf_70 (by decide) (fun c12 => ?_) (fun c12 => ?_)
        · have h := g_neg c12 h
          obtain ⟨v13, ev13⟩ : ∃ y : Int32, y = (a7 + (1 : Int32)) := ⟨_, rfl⟩
          have h := g_let ev13 h
          refine lv_iinc (v := v13) (lv' := [(7, .int v13), (8, .int v5), (0, gR E 54), (1, .int a1), (2, .int a2), (3, .int a3), (4, .int a4), (5, .int a5), (6, .int a6)]) hx hb dX11_standOf_241 hl (k := 8) rfl (by rw [ev13]; rfl) (by decide) rfl (fun ls hl => ?_)
          refine lv_goto (tgt := 31) hx hb dX11_standOf_244 (by decide) ?_
          exact ih S11 a1 a2 a3 a4 a5 a6 v13 _ _ _ (lv_sub hl [2, 3, 4, 5, 6, 7, 8, 0] rfl) hG h
        · have h := g_pos c12 h
          refine lv_aload_n hx hb dX11_standOf_73 rfl (lv_at hl 1 rfl) ?_
          refine lv_iload hx hb dX11_standOf_74 (lv_at hl 0 rfl) ?_
          refine lv_iload_n hx hb dX11_standOf_76 rfl (lv_at hl 2 rfl) ?_
          refine lv_aload_n hx hb dX11_standOf_77 rfl (lv_at hl 1 rfl) ?_
          refine g_getI hc hG 54 flX11_360 rfl rfl dX11_standOf_78 ?_
          obtain ⟨r15, hm14, h⟩ := g_bv h
          refine g_callVi (As := [.int v5, .int a1, .int (S11.1 54 59)]) hc hG (mX11_isTaken l E hm14) mlX11_339 mcX11_isTaken miX11_isTaken rfl rfl rfl rfl hl.1 rfl rfl ⟨by decide, by decide⟩ (Nat.le_of_ble_eq_true rfl) ⟨by decide, by decide⟩ dX11_standOf_81 rfl (fun H locs hG => ?_)
          refine lv_if_eq (tgt := 90) hx hb dX11_standOf_84 (by decide) (fun c16 => ?_) (fun c16 => ?_)
          · have h := g_pos c16 h
            refine lv_aload_n hx hb dX11_standOf_90 rfl (lv_at hl 1 rfl) ?_
            refine lv_iload hx hb dX11_standOf_91 (lv_at hl 0 rfl) ?_
            refine lv_iload_n hx hb dX11_standOf_93 rfl (lv_at hl 2 rfl) ?_
            refine lv_iload_n hx hb dX11_standOf_94 rfl (lv_at hl 4 rfl) ?_
            refine lv_aload_n hx hb dX11_standOf_95 rfl (lv_at hl 1 rfl) ?_
            refine g_getI hc hG 54 flX11_363 rfl rfl dX11_standOf_96 ?_
            refine lv_aload_n hx hb dX11_standOf_99 rfl (lv_at hl 1 rfl) ?_
            refine g_getI hc hG 54 flX11_360 rfl rfl dX11_standOf_100 ?_
            obtain ⟨r18, S19, hm17, h⟩ := g_bd h
            refine g_callVi (As := [.int v5, .int a1, .int a3, .int (S11.1 54 58), .int (S11.1 54 59)]) hc hG (mX11_isGood l E hm17) mlX11_352 mcX11_isGood miX11_isGood rfl rfl rfl rfl hl.1 rfl rfl ⟨by decide, by decide⟩ (Nat.le_of_ble_eq_true rfl) ⟨by decide, by decide⟩ dX11_standOf_103 rfl (fun H locs hG => ?_)
            refine lv_istore (lv' := [(9, .int r18), (8, .int v5), (0, gR E 54), (1, .int a1), (2, .int a2), (3, .int a3), (4, .int a4), (5, .int a5), (6, .int a6), (7, .int a7)]) hx hb dX11_standOf_106 hl (by decide) rfl (fun ls hl => ?_)
            refine lv_iload hx hb dX11_standOf_108 (lv_at hl 0 rfl) ?_
            refine lv_if_eq (tgt := 194) hx hb dX11_standOf_110 (by decide) (fun c20 => ?_) (fun c20 => ?_)
            · have h := g_pos c20 h
              exact wX11_standOf_194 hc ih S19 a1 a2 a3 a4 a5 a6 a7 v5 r18 _ _ _ (lv_sub hl [2, 3, 4, 5, 6, 7, 8, 9, 1, 0] rfl) hG h
            · have h := g_neg c20 h
              refine lv_aload_n hx hb dX11_standOf_113 rfl (lv_at hl 2 rfl) ?_
              refine lv_iload hx hb dX11_standOf_114 (lv_at hl 1 rfl) ?_
              refine lv_iload_n hx hb dX11_standOf_116 rfl (lv_at hl 3 rfl) ?_
              refine lv_iload_n hx hb dX11_standOf_117 rfl (lv_at hl 4 rfl) ?_
              refine lv_iload_n hx hb dX11_standOf_118 rfl (lv_at hl 5 rfl) ?_
              refine lv_aload_n hx hb dX11_standOf_119 rfl (lv_at hl 2 rfl) ?_
              refine g_getI hc hG 54 flX11_363 rfl rfl dX11_standOf_120 ?_
              refine lv_aload_n hx hb dX11_standOf_123 rfl (lv_at hl 2 rfl) ?_
              refine g_getI hc hG 54 flX11_360 rfl rfl dX11_standOf_124 ?_
              obtain ⟨r22, S23, hm21, h⟩ := g_bd h
              refine g_callVi (As := [.int v5, .int a1, .int a2, .int a3, .int (S19.1 54 58), .int (S19.1 54 59)]) hc hG (mX11_isBinding l E hm21) mlX11_356 mcX11_isBinding miX11_isBinding rfl rfl rfl rfl hl.1 rfl rfl ⟨by decide, by decide⟩ (Nat.le_of_ble_eq_true rfl) ⟨by decide, by decide⟩ dX11_standOf_127 rfl (fun H locs hG => ?_)
              refine lv_if_eq (tgt := 194) hx hb dX11_standOf_130 (by decide) (fun c24 => ?_) (fun c24 => ?_)
              · have h := g_pos c24 h
                exact wX11_standOf_194 hc ih S23 a1 a2 a3 a4 a5 a6 a7 v5 r18 _ _ _ (lv_sub hl [2, 3, 4, 5, 6, 7, 8, 9, 1, 0] rfl) hG h
              · have h := g_neg c24 h
                refine lv_aload_n hx hb dX11_standOf_133 rfl (lv_at hl 2 rfl) ?_
                refine lv_iload hx hb dX11_standOf_134 (lv_at hl 1 rfl) ?_
                refine lv_iload_n hx hb dX11_standOf_136 rfl (lv_at hl 3 rfl) ?_
                refine lv_aload_n hx hb dX11_standOf_137 rfl (lv_at hl 2 rfl) ?_
                refine g_getI hc hG 54 flX11_363 rfl rfl dX11_standOf_138 ?_
                obtain ⟨r26, hm25, h⟩ := g_bv h
                refine g_callVi (As := [.int v5, .int a1, .int (S23.1 54 58)]) hc hG (mX11_doubts l E hm25) mlX11_322 mcX11_doubts miX11_doubts rfl rfl rfl rfl hl.1 rfl rfl ⟨by decide, by decide⟩ (Nat.le_of_ble_eq_true rfl) ⟨by decide, by decide⟩ dX11_standOf_141 rfl (fun H locs hG => ?_)
                refine lv_aload_n hx hb dX11_standOf_144 rfl (lv_at hl 2 rfl) ?_
                refine g_getI hc hG 54 flX11_26 rfl rfl dX11_standOf_145 ?_
                refine lv_icmp_ge (tgt := 174) hx hb dX11_standOf_148 (by decide) (fun c27 => ?_) (fun c27 => ?_)
                · have h := g_pos c27 h
                  refine lv_aload_n hx hb dX11_standOf_174 rfl (lv_at hl 2 rfl) ?_
                  refine lv_iload hx hb dX11_standOf_175 (lv_at hl 1 rfl) ?_
                  refine lv_iload hx hb dX11_standOf_177 (lv_at hl 7 rfl) ?_
                  obtain ⟨r29, hm28, h⟩ := g_bv h
                  refine g_callVi (As := [.int v5, .int a5]) hc hG (mX11_isBefore l E hm28) mlX11_369 mcX11_isBefore miX11_isBefore rfl rfl rfl rfl hl.1 rfl rfl ⟨by decide, by decide⟩ (Nat.le_of_ble_eq_true rfl) ⟨by decide, by decide⟩ dX11_standOf_179 rfl (fun H locs hG => ?_)
                  refine lv_if_eq (tgt := 190) hx hb dX11_standOf_182 (by decide) (fun c30 => ?_) (fun c30 => ?_)
                  · have h := g_pos c30 h
                    refine lv_iload hx hb dX11_standOf_190 (lv_at hl 1 rfl) ?_
                    exact wX11_standOf_192 hc ih S23 v5 a1 a2 a3 a4 a6 a7 v5 r18 _ _ _ (lv_sub hl [2, 3, 4, 5, 6, 8, 9, 1, 0] rfl) hG h
                  · have h := g_neg c30 h
                    refine lv_iload hx hb dX11_standOf_185 (lv_at hl 7 rfl) ?_
                    refine lv_goto (tgt := 192) hx hb dX11_standOf_187 (by decide) ?_
                    exact wX11_standOf_192 hc ih S23 a5 a1 a2 a3 a4 a6 a7 v5 r18 _ _ _ (lv_sub hl [2, 3, 4, 5, 6, 8, 9, 1, 0] rfl) hG h
                · have h := g_neg c27 h
                  refine lv_aload_n hx hb dX11_standOf_151 rfl (lv_at hl 2 rfl) ?_
                  refine lv_iload hx hb dX11_standOf_152 (lv_at hl 1 rfl) ?_
                  refine lv_iload hx hb dX11_standOf_154 (lv_at hl 6 rfl) ?_
                  obtain ⟨r32, hm31, h⟩ := g_bv h
                  refine g_callVi (As := [.int v5, .int a4]) hc hG (mX11_isBefore l E hm31) mlX11_369 mcX11_isBefore miX11_isBefore rfl rfl rfl rfl hl.1 rfl rfl ⟨by decide, by decide⟩ (Nat.le_of_ble_eq_true rfl) ⟨by decide, by decide⟩ dX11_standOf_156 rfl (fun H locs hG => ?_)
                  refine lv_if_eq (tgt := 167) hx hb dX11_standOf_159 (by decide) (fun c33 => ?_) (fun c33 => ?_)
                  · have h := g_pos c33 h
                    refine lv_iload hx hb dX11_standOf_167 (lv_at hl 1 rfl) ?_
                    exact wX11_standOf_169 hc ih S23 v5 a1 a2 a3 a5 a6 a7 v5 r18 _ _ _ (lv_sub hl [2, 3, 4, 5, 7, 8, 9, 1, 0] rfl) hG h
                  · have h := g_neg c33 h
                    refine lv_iload hx hb dX11_standOf_162 (lv_at hl 6 rfl) ?_
                    refine lv_goto (tgt := 169) hx hb dX11_standOf_164 (by decide) ?_
                    exact wX11_standOf_169 hc ih S23 a4 a1 a2 a3 a5 a6 a7 v5 r18 _ _ _ (lv_sub hl [2, 3, 4, 5, 7, 8, 9, 1, 0] rfl) hG h
          · have h := g_neg c16 h
            refine lv_goto (tgt := 241) hx hb dX11_standOf_87 (by decide) ?_
            obtain ⟨v34, ev34⟩ : ∃ y : Int32, y = (a7 + (1 : Int32)) := ⟨_, rfl⟩
            have h := g_let ev34 h
            refine lv_iinc (v := v34) (lv' := [(7, .int v34), (8, .int v5), (0, gR E 54), (1, .int a1), (2, .int a2), (3, .int a3), (4, .int a4), (5, .int a5), (6, .int a6)]) hx hb dX11_standOf_241 hl (k := 8) rfl (by rw [ev34]; rfl) (by decide) rfl (fun ls hl => ?_)
            refine lv_goto (tgt := 31) hx hb dX11_standOf_244 (by decide) ?_
            exact ih S11 a1 a2 a3 a4 a5 a6 v34 _ _ _ (lv_sub hl [2, 3, 4, 5, 6, 7, 8, 0] rfl) hG h
def fX11_standOf (S : GS) (a1 : Int32) (a2 : Int32) (a3 : Int32) : Option (Int32 × GS) := glet (gsi S 54 60 (-1 : Int32)) fun S1 => gbv (fX11_isLaid S1 a1 (S1.1 54 59)) fun r3 => (if r3 = 0 then glet (-1 : Int32) fun v5 => glet (-1 : Int32) fun v6 => glet (-1 : Int32) fun v7 => glet (0 : Int32) fun v8 => (fX11_standOf_31 FU S1 a1 a2 a3 v5 v6 v7 v8) else (some ((4 : Int32), S1)))
set_option maxRecDepth 100000 in
set_option maxHeartbeats 4000000 in
theorem wX11_standOf_0 {p : Program} {l : Launch} {e : Env} {s : State} {m : MethodId} {args : Array Value} {below : List Frame} {meth : Method} {c : Code} {E : GE} {res : (Int32 × GS)} (hc : GM E p s m args meth c RX11 cX11_standOf 10 (some .int)) : ∀ (S : GS) (a1 : Int32) (a2 : Int32) (a3 : Int32) (H : Heap) (locs : List Loc) (ls : Array Slot), lv_has ls 10 [(0, gR E 54), (1, .int a1), (2, .int a2), (3, .int a3)] → GX E S H locs → fX11_standOf S a1 a2 a3 = some res → W p l e rmX11_standOf s m args below meth c H locs 0 0 (gZ E below args s (some (.int res.1)) res.2) (F0 m 0 ls []) := by
  obtain ⟨hx, hb, -, -, -, hown, hts, -, -⟩ := id hc
  intro S a1 a2 a3 H locs ls hl hG h
  unfold fX11_standOf at h
  refine lv_aload_n hx hb dX11_standOf_0 rfl (lv_at hl 0 rfl) ?_
  refine lv_iconst (v := (-1 : Int32)) hx hb dX11_standOf_1 (by decide) ?_
  refine g_putI hc hG 54 fpX11_366 rfl rfl rfl rfl dX11_standOf_2 (fun S1 H locs eS1 hG => ?_)
  have h := g_let eS1 h
  refine lv_aload_n hx hb dX11_standOf_5 rfl (lv_at hl 0 rfl) ?_
  refine lv_iload_n hx hb dX11_standOf_6 rfl (lv_at hl 1 rfl) ?_
  refine lv_aload_n hx hb dX11_standOf_7 rfl (lv_at hl 0 rfl) ?_
  refine g_getI hc hG 54 flX11_360 rfl rfl dX11_standOf_8 ?_
  obtain ⟨r3, hm2, h⟩ := g_bv h
  refine g_callVi (As := [.int a1, .int (S1.1 54 59)]) hc hG (mX11_isLaid l E hm2) mlX11_349 mcX11_isLaid miX11_isLaid rfl rfl rfl rfl hl.1 rfl rfl ⟨by decide, by decide⟩ (Nat.le_of_ble_eq_true rfl) ⟨by decide, by decide⟩ dX11_standOf_11 rfl (fun H locs hG => ?_)
  refine lv_if_eq (tgt := 19) hx hb dX11_standOf_14 (by decide) (fun c4 => ?_) (fun c4 => ?_)
  · have h := g_pos c4 h
    refine lv_iconst (v := (-1 : Int32)) hx hb dX11_standOf_19 (by decide) ?_
    refine lv_topi (fun v5 ev5 => ?_)
    have h := g_let ev5 h
    refine lv_istore (lv' := [(4, .int v5), (0, gR E 54), (1, .int a1), (2, .int a2), (3, .int a3)]) hx hb dX11_standOf_20 hl (by decide) rfl (fun ls hl => ?_)
    refine lv_iconst (v := (-1 : Int32)) hx hb dX11_standOf_22 (by decide) ?_
    refine lv_topi (fun v6 ev6 => ?_)
    have h := g_let ev6 h
    refine lv_istore (lv' := [(5, .int v6), (4, .int v5), (0, gR E 54), (1, .int a1), (2, .int a2), (3, .int a3)]) hx hb dX11_standOf_23 hl (by decide) rfl (fun ls hl => ?_)
    refine lv_iconst (v := (-1 : Int32)) hx hb dX11_standOf_25 (by decide) ?_
    refine lv_topi (fun v7 ev7 => ?_)
    have h := g_let ev7 h
    refine lv_istore (lv' := [(6, .int v7), (5, .int v6), (4, .int v5), (0, gR E 54), (1, .int a1), (2, .int a2), (3, .int a3)]) hx hb dX11_standOf_26 hl (by decide) rfl (fun ls hl => ?_)
    refine lv_iconst (v := (0 : Int32)) hx hb dX11_standOf_28 (by decide) ?_
    refine lv_topi (fun v8 ev8 => ?_)
    have h := g_let ev8 h
    refine lv_istore (lv' := [(7, .int v8), (6, .int v7), (5, .int v6), (4, .int v5), (0, gR E 54), (1, .int a1), (2, .int a2), (3, .int a3)]) hx hb dX11_standOf_29 hl (by decide) rfl (fun ls hl => ?_)
    exact wX11_standOf_31 hc FU S1 a1 a2 a3 v5 v6 v7 v8 _ _ _ (lv_sub hl [4, 5, 6, 7, 3, 2, 1, 0] rfl) hG h
  · have h := g_neg c4 h
    refine lv_iconst (v := (4 : Int32)) hx hb dX11_standOf_17 (by decide) ?_
    exact g_iret hc hG dX11_standOf_18 h
theorem mX11_standOf (l : Launch) (E : GE) {S : GS} {a1 : Int32} {a2 : Int32} {a3 : Int32} {res : (Int32 × GS)} (h : fX11_standOf S a1 a2 a3 = some res) : gMet l E yX11_standOf cX11_standOf 10 (some .int) rmX11_standOf [gR E 54, .int a1, .int a2, .int a3] S (some (.int res.1)) res.2 :=
  g_met (by decide) (Nat.le_of_ble_eq_true rfl) rfl fun p e s m below meth c H ls hc hG hl => wX11_standOf_0 hc S a1 a2 a3 H [] ls hl hG h

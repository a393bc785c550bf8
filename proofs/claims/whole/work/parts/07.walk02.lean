abbrev rmX7_clear : Room := { frames := 1, cells := 0, slots := 0, locals := 20 }
def fX7_clear (S : GS) (a0 : Nat) : Option (Unit × GS) := (if gk a0 = 7 then glet (gsi S a0 0 (0 : Int32)) fun S2 => glet (gsi S2 a0 1 (0 : Int32)) fun S3 => glet (gsi S3 a0 2 (2 : Int32)) fun S4 => glet (gsi S4 a0 3 (0 : Int32)) fun S5 => (if gk (gr S5.2.2 a0 4) = 2 then gbd (fX2_clear S5 (gr S5.2.2 a0 4)) fun r8 S9 => (if gk (gr S9.2.2 a0 5) = 2 then gbd (fX2_clear S9 (gr S9.2.2 a0 5)) fun r12 S13 => (some ((), S13)) else none) else none) else none)
set_option maxRecDepth 100000 in
set_option maxHeartbeats 4000000 in
theorem wX7_clear_0 {p : Program} {l : Launch} {e : Env} {s : State} {m : MethodId} {args : Array Value} {below : List Frame} {meth : Method} {c : Code} {E : GE} {res : (Unit × GS)} (hc : GM E p s m args meth c RX7 cX7_clear 1 none) : ∀ (S : GS) (a0 : Nat) (H : Heap) (locs : List Loc) (ls : Array Slot), lv_has ls 1 [(0, gR E a0)] → GX E S H locs → fX7_clear S a0 = some res → W p l e rmX7_clear s m args below meth c H locs 0 0 (gZ E below args s none res.2) (F0 m 0 ls []) := by
  obtain ⟨hx, hb, -, -, -, hown, hts, -, -⟩ := id hc
  intro S a0 H locs ls hl hG h
  unfold fX7_clear at h
  refine lv_aload_n hx hb dX7_clear_0 rfl (lv_at hl 0 rfl) ?_
  refine lv_iconst (v := (0 : Int32)) hx hb dX7_clear_1 (by decide) ?_
  obtain ⟨hk1, h⟩ := g_if h
  refine g_putI hc hG a0 fpX7_25 rfl rfl hk1 rfl dX7_clear_2 (fun S2 H locs eS2 hG => ?_)
  have h := g_let eS2 h
  refine lv_aload_n hx hb dX7_clear_5 rfl (lv_at hl 0 rfl) ?_
  refine lv_iconst (v := (0 : Int32)) hx hb dX7_clear_6 (by decide) ?_
  refine g_putI hc hG a0 fpX7_28 rfl rfl hk1 rfl dX7_clear_7 (fun S3 H locs eS3 hG => ?_)
  have h := g_let eS3 h
  refine lv_aload_n hx hb dX7_clear_10 rfl (lv_at hl 0 rfl) ?_
  refine lv_iconst (v := (2 : Int32)) hx hb dX7_clear_11 (by decide) ?_
  refine g_putI hc hG a0 fpX7_9 rfl rfl hk1 rfl dX7_clear_12 (fun S4 H locs eS4 hG => ?_)
  have h := g_let eS4 h
  refine lv_aload_n hx hb dX7_clear_15 rfl (lv_at hl 0 rfl) ?_
  refine lv_iconst (v := (0 : Int32)) hx hb dX7_clear_16 (by decide) ?_
  refine g_putI hc hG a0 fpX7_31 rfl (by decide) hk1 rfl dX7_clear_17 (fun S5 H locs eS5 hG => ?_)
  have h := g_let eS5 h
  refine lv_aload_n hx hb dX7_clear_20 rfl (lv_at hl 0 rfl) ?_
  refine g_getR hc hG a0 (gr S5.2.2 a0 4) flX7_18 hk1 rfl rfl dX7_clear_21 ?_
  obtain ⟨hk6, h⟩ := g_if h
  obtain ⟨r8, S9, hm7, h⟩ := g_bd h
  refine g_callVv (As := []) hc hG (mX2_clear l E hm7) mlX7_35 mcX2_clear miX2_clear hk6 rfl rfl rfl hl.1 rfl rfl ⟨by decide, by decide⟩ (Nat.le_of_ble_eq_true rfl) ⟨by decide, by decide⟩ dX7_clear_24 rfl (fun H locs hG => ?_)
  refine lv_aload_n hx hb dX7_clear_27 rfl (lv_at hl 0 rfl) ?_
  refine g_getR hc hG a0 (gr S9.2.2 a0 5) flX7_22 hk1 rfl rfl dX7_clear_28 ?_
  obtain ⟨hk10, h⟩ := g_if h
  obtain ⟨r12, S13, hm11, h⟩ := g_bd h
  refine g_callVv (As := []) hc hG (mX2_clear l E hm11) mlX7_35 mcX2_clear miX2_clear hk10 rfl rfl rfl hl.1 rfl rfl ⟨by decide, by decide⟩ (Nat.le_of_ble_eq_true rfl) ⟨by decide, by decide⟩ dX7_clear_31 rfl (fun H locs hG => ?_)
  exact g_vret hc hG dX7_clear_34 h
theorem mX7_clear (l : Launch) (E : GE) {S : GS} {a0 : Nat} {res : (Unit × GS)} (h : fX7_clear S a0 = some res) : gMet l E yX7_clear cX7_clear 1 none rmX7_clear [gR E a0] S none res.2 :=
  g_met (by decide) (Nat.le_of_ble_eq_true rfl) rfl fun p e s m below meth c H ls hc hG hl => wX7_clear_0 hc S a0 H [] ls hl hG h
abbrev rmX8_wordOf : Room := { frames := 0, cells := 0, slots := 0, locals := 0 }
def fX8_wordOf (S : GS) (a0 : Int32) : Option Nat := (if a0 = (17 : Int32) then (some 2) else (if a0 = (18 : Int32) then (some 3) else (if a0 = (19 : Int32) then (some 4) else (if a0 = (20 : Int32) then (some 5) else (if a0 = (21 : Int32) then (some 6) else (if a0 = (22 : Int32) then (some 7) else (if a0 = (23 : Int32) then (some 8) else (if a0 = (24 : Int32) then (some 9) else (if a0 = (25 : Int32) then (some 10) else (if a0 = (26 : Int32) then (some 11) else (if a0 = (27 : Int32) then (some 12) else (if a0 = (28 : Int32) then (some 13) else (if a0 = (29 : Int32) then (some 14) else (if a0 = (30 : Int32) then (some 15) else (some 16)))))))))))))))
set_option maxRecDepth 100000 in
set_option maxHeartbeats 4000000 in
theorem wX8_wordOf_0 {p : Program} {l : Launch} {e : Env} {s : State} {m : MethodId} {args : Array Value} {below : List Frame} {meth : Method} {c : Code} {E : GE} {res : Nat} (hc : GM E p s m args meth c RX8 cX8_wordOf 1 (some (.object "java/lang/String"))) : ∀ (S : GS) (a0 : Int32) (H : Heap) (locs : List Loc) (ls : Array Slot), lv_has ls 1 [(0, .int a0)] → GX E S H locs → fX8_wordOf S a0 = some res → W p l e rmX8_wordOf s m args below meth c H locs 0 0 (gZ E below args s (some (.ref (E.2.2.2.1 res))) S) (F0 m 0 ls []) := by
  obtain ⟨hx, hb, -, -, -, hown, hts, -, -⟩ := id hc
  intro S a0 H locs ls hl hG h
  unfold fX8_wordOf at h
  refine lv_iload_n hx hb dX8_wordOf_0 rfl (lv_at hl 0 rfl) ?_
  by_cases c1 : a0 = (17 : Int32)
  · have h := g_pos c1 h
    refine lv_tableIn (off := 71) (tgt := 72) hx hb dX8_wordOf_1 (by rw [c1]; decide) (by rw [c1]; decide) (by rw [c1]; decide) (by decide) ?_
    refine g_ldcs hc 2 (by decide) rfl rfl dX8_wordOf_72 ?_
    exact g_xretp hc hG dX8_wordOf_74 h
  have h := g_neg c1 h
  by_cases c2 : a0 = (18 : Int32)
  · have h := g_pos c2 h
    refine lv_tableIn (off := 74) (tgt := 75) hx hb dX8_wordOf_1 (by rw [c2]; decide) (by rw [c2]; decide) (by rw [c2]; decide) (by decide) ?_
    refine g_ldcs hc 3 (by decide) rfl rfl dX8_wordOf_75 ?_
    exact g_xretp hc hG dX8_wordOf_77 h
  have h := g_neg c2 h
  by_cases c3 : a0 = (19 : Int32)
  · have h := g_pos c3 h
    refine lv_tableIn (off := 77) (tgt := 78) hx hb dX8_wordOf_1 (by rw [c3]; decide) (by rw [c3]; decide) (by rw [c3]; decide) (by decide) ?_
    refine g_ldcs hc 4 (by decide) rfl rfl dX8_wordOf_78 ?_
    exact g_xretp hc hG dX8_wordOf_80 h
  have h := g_neg c3 h
  by_cases c4 : a0 = (20 : Int32)
  · have h := g_pos c4 h
    refine lv_tableIn (off := 80) (tgt := 81) hx hb dX8_wordOf_1 (by rw [c4]; decide) (by rw [c4]; decide) (by rw [c4]; decide) (by decide) ?_
    refine g_ldcs hc 5 (by decide) rfl rfl dX8_wordOf_81 ?_
    exact g_xretp hc hG dX8_wordOf_83 h
  have h := g_neg c4 h
  by_cases c5 : a0 = (21 : Int32)
  · have h := g_pos c5 h
    refine lv_tableIn (off := 83) (tgt := 84) hx hb dX8_wordOf_1 (by rw [c5]; decide) (by rw [c5]; decide) (by rw [c5]; decide) (by decide) ?_
    refine g_ldcs hc 6 (by decide) rfl rfl dX8_wordOf_84 ?_
    exact g_xretp hc hG dX8_wordOf_86 h
  have h := g_neg c5 h
  by_cases c6 : a0 = (22 : Int32)
  · have h := g_pos c6 h
    refine lv_tableIn (off := 86) (tgt := 87) hx hb dX8_wordOf_1 (by rw [c6]; decide) (by rw [c6]; decide) (by rw [c6]; decide) (by decide) ?_
    refine g_ldcs hc 7 (by decide) rfl rfl dX8_wordOf_87 ?_
    exact g_xretp hc hG dX8_wordOf_89 h
  have h := g_neg c6 h
  by_cases c7 : a0 = (23 : Int32)
  · have h := g_pos c7 h
    refine lv_tableIn (off := 89) (tgt := 90) hx hb dX8_wordOf_1 (by rw [c7]; decide) (by rw [c7]; decide) (by rw [c7]; decide) (by decide) ?_
    refine g_ldcs hc 8 (by decide) rfl rfl dX8_wordOf_90 ?_
    exact g_xretp hc hG dX8_wordOf_92 h
  have h := g_neg c7 h
  by_cases c8 : a0 = (24 : Int32)
  · have h := g_pos c8 h
    refine lv_tableIn (off := 92) (tgt := 93) hx hb dX8_wordOf_1 (by rw [c8]; decide) (by rw [c8]; decide) (by rw [c8]; decide) (by decide) ?_
    refine g_ldcs hc 9 (by decide) rfl rfl dX8_wordOf_93 ?_
    exact g_xretp hc hG dX8_wordOf_95 h
  have h := g_neg c8 h
  by_cases c9 : a0 = (25 : Int32)
  · have h := g_pos c9 h
    refine lv_tableIn (off := 95) (tgt := 96) hx hb dX8_wordOf_1 (by rw [c9]; decide) (by rw [c9]; decide) (by rw [c9]; decide) (by decide) ?_
    refine g_ldcs hc 10 (by decide) rfl rfl dX8_wordOf_96 ?_
    exact g_xretp hc hG dX8_wordOf_98 h
  have h := g_neg c9 h
  by_cases c10 : a0 = (26 : Int32)
  · have h := g_pos c10 h
    refine lv_tableIn (off := 98) (tgt := 99) hx hb dX8_wordOf_1 (by rw [c10]; decide) (by rw [c10]; decide) (by rw [c10]; decide) (by decide) ?_
    refine g_ldcs hc 11 (by decide) rfl rfl dX8_wordOf_99 ?_
    exact g_xretp hc hG dX8_wordOf_101 h
  have h := g_neg c10 h
  by_cases c11 : a0 = (27 : Int32)
  · have h := g_pos c11 h
    refine lv_tableIn (off := 101) (tgt := 102) hx hb dX8_wordOf_1 (by rw [c11]; decide) (by rw [c11]; decide) (by rw [c11]; decide) (by decide) ?_
    refine g_ldcs hc 12 (by decide) rfl rfl dX8_wordOf_102 ?_
    exact g_xretp hc hG dX8_wordOf_104 h
  have h := g_neg c11 h
  by_cases c12 : a0 = (28 : Int32)
  · have h := g_pos c12 h
    refine lv_tableIn (off := 104) (tgt := 105) hx hb dX8_wordOf_1 (by rw [c12]; decide) (by rw [c12]; decide) (by rw [c12]; decide) (by decide) ?_
    refine g_ldcs hc 13 (by decide) rfl rfl dX8_wordOf_105 ?_
    exact g_xretp hc hG dX8_wordOf_107 h
  have h := g_neg c12 h
  by_cases c13 : a0 = (29 : Int32)
  · have h := g_pos c13 h
    refine lv_tableIn (off := 107) (tgt := 108) hx hb dX8_wordOf_1 (by rw [c13]; decide) (by rw [c13]; decide) (by rw [c13]; decide) (by decide) ?_
    refine g_ldcs hc 14 (by decide) rfl rfl dX8_wordOf_108 ?_
    exact g_xretp hc hG dX8_wordOf_110 h
  have h := g_neg c13 h
  by_cases c14 : a0 = (30 : Int32)
  · have h := g_pos c14 h
    refine lv_tableIn (off := 110) (tgt := 111) hx hb dX8_wordOf_1 (by rw [c14]; decide) (by rw [c14]; decide) (by rw [c14]; decide) (by decide) ?_
    refine g_ldcs hc 15 (by decide) rfl rfl dX8_wordOf_111 ?_
    exact g_xretp hc hG dX8_wordOf_113 h
  have h := g_neg c14 h
  have zc1 : ¬ Int32.toInt a0 = 17 := fun q => c1 (Int32.toInt_inj.mp (q.trans (by decide)))
  have zc2 : ¬ Int32.toInt a0 = 18 := fun q => c2 (Int32.toInt_inj.mp (q.trans (by decide)))
  have zc3 : ¬ Int32.toInt a0 = 19 := fun q => c3 (Int32.toInt_inj.mp (q.trans (by decide)))
  have zc4 : ¬ Int32.toInt a0 = 20 := fun q => c4 (Int32.toInt_inj.mp (q.trans (by decide)))
  have zc5 : ¬ Int32.toInt a0 = 21 := fun q => c5 (Int32.toInt_inj.mp (q.trans (by decide)))
  have zc6 : ¬ Int32.toInt a0 = 22 := fun q => c6 (Int32.toInt_inj.mp (q.trans (by decide)))
  have zc7 : ¬ Int32.toInt a0 = 23 := fun q => c7 (Int32.toInt_inj.mp (q.trans (by decide)))
  have zc8 : ¬ Int32.toInt a0 = 24 := fun q => c8 (Int32.toInt_inj.mp (q.trans (by decide)))
  have zc9 : ¬ Int32.toInt a0 = 25 := fun q => c9 (Int32.toInt_inj.mp (q.trans (by decide)))
  have zc10 : ¬ Int32.toInt a0 = 26 := fun q => c10 (Int32.toInt_inj.mp (q.trans (by decide)))
  have zc11 : ¬ Int32.toInt a0 = 27 := fun q => c11 (Int32.toInt_inj.mp (q.trans (by decide)))
  have zc12 : ¬ Int32.toInt a0 = 28 := fun q => c12 (Int32.toInt_inj.mp (q.trans (by decide)))
  have zc13 : ¬ Int32.toInt a0 = 29 := fun q => c13 (Int32.toInt_inj.mp (q.trans (by decide)))
  have zc14 : ¬ Int32.toInt a0 = 30 := fun q => c14 (Int32.toInt_inj.mp (q.trans (by decide)))
  refine lv_tableOut (tgt := 114) hx hb dX8_wordOf_1 (by omega) (by decide) ?_
  refine g_ldcs hc 16 (by decide) rfl rfl dX8_wordOf_114 ?_
  exact g_xretp hc hG dX8_wordOf_116 h
theorem mX8_wordOf (l : Launch) (E : GE) {S : GS} {a0 : Int32} {res : Nat} (h : fX8_wordOf S a0 = some res) : gMet l E yX8_wordOf cX8_wordOf 1 (some (.object "java/lang/String")) rmX8_wordOf [.int a0] S (some (.ref (E.2.2.2.1 res))) S :=
  g_met (by decide) (Nat.le_of_ble_eq_true rfl) rfl fun p e s m below meth c H ls hc hG hl => wX8_wordOf_0 hc S a0 H [] ls hl hG h
abbrev rmX8_isSpelt : Room := { frames := 4, cells := 0, slots := 0, locals := 85 }
def fX8_isSpelt_20 : Nat → GS → Nat → Int32 → Option Int32
  | 0, _, _, _ => none
  | n + 1, S, a1, a2 => gbv (fJ0_length_8abf5 S a1) fun r2 => (if r2 ≤ a2 then (some (1 : Int32)) else (if gk (S.2.2 4) = 13 then (if gib ((S.1 32 4) + a2) (gn (S.2.2 4)) = true then gbv (fJ0_charAt_5068e S a1 a2) fun r7 => (if (S.1 (S.2.2 4) (((S.1 32 4) + a2)).toNatClampNeg) = r7 then glet (a2 + (1 : Int32)) fun v9 => (fX8_isSpelt_20 n S a1 v9) else (some (0 : Int32))) else none) else none))
set_option maxRecDepth 100000 in
set_option maxHeartbeats 4000000 in
theorem wX8_isSpelt_20 {p : Program} {l : Launch} {e : Env} {s : State} {m : MethodId} {args : Array Value} {below : List Frame} {meth : Method} {c : Code} {E : GE} {res : Int32} (hc : GM E p s m args meth c RX8 cX8_isSpelt 3 (some .boolean)) : ∀ (n : Nat), ∀ (S : GS) (a1 : Nat) (a2 : Int32) (H : Heap) (locs : List Loc) (ls : Array Slot), lv_has ls 3 [(0, gR E 32), (1, .ref (E.2.2.2.1 a1)), (2, .int a2)] → GX E S H locs → fX8_isSpelt_20 n S a1 a2 = some res → W p l e rmX8_isSpelt s m args below meth c H locs 0 0 (gZ E below args s (some (.int res)) S) (F0 m 20 ls []) := by
  obtain ⟨hx, hb, -, -, -, hown, hts, -, -⟩ := id hc
  intro n
  induction n with
  | zero => intro S a1 a2 H locs ls hl hG h; cases h
  | succ n ih =>
    intro S a1 a2 H locs ls hl hG h
    rw [fX8_isSpelt_20] at h
    refine lv_iload_n hx hb dX8_isSpelt_20 rfl (lv_at hl 2 rfl) ?_
    refine lv_aload_n hx hb dX8_isSpelt_21 rfl (lv_at hl 1 rfl) ?_
    obtain ⟨r2, hm1, h⟩ := g_bv h
    refine g_callXi (As := []) hc hG a1 (fJ0_length_8abf5_lt hm1) (mJ0_length_8abf5 l E hm1) mlX8_54 mcJ0_length_8abf5 miJ0_length_8abf5 rfl rfl hl.1 rfl rfl ⟨by decide, by decide⟩ (Nat.le_of_ble_eq_true rfl) ⟨by decide, by decide⟩ dX8_isSpelt_22 rfl (fun H locs hG => ?_)
    refine lv_icmp_ge (tgt := 55) hx hb dX8_isSpelt_25 (by decide) (fun c3 => ?_) (fun c3 => ?_)
    · have h := g_pos c3 h
      refine lv_iconst (v := (1 : Int32)) hx hb dX8_isSpelt_55 (by decide) ?_
      exact g_zretp hc hG (Or.inr rfl) dX8_isSpelt_56 h
    · have h := g_neg c3 h
      refine lv_aload_n hx hb dX8_isSpelt_28 rfl (lv_at hl 0 rfl) ?_
      refine g_getR hc hG 32 (S.2.2 4) flX8_9 rfl rfl rfl dX8_isSpelt_29 ?_
      refine lv_aload_n hx hb dX8_isSpelt_32 rfl (lv_at hl 0 rfl) ?_
      refine g_getI hc hG 32 flX8_31 rfl rfl dX8_isSpelt_33 ?_
      refine lv_iload_n hx hb dX8_isSpelt_36 rfl (lv_at hl 2 rfl) ?_
      refine lv_iadd hx hb dX8_isSpelt_37 ?_
      obtain ⟨hk4, h⟩ := g_if h
      obtain ⟨hi5, h⟩ := g_if h
      refine g_bald hc hG (S.2.2 4) (gn (S.2.2 4)) ((((S.1 32 4) + a2)).toNatClampNeg) hk4 rfl hi5 rfl dX8_isSpelt_38 ?_
      refine lv_aload_n hx hb dX8_isSpelt_39 rfl (lv_at hl 1 rfl) ?_
      refine lv_iload_n hx hb dX8_isSpelt_40 rfl (lv_at hl 2 rfl) ?_
      obtain ⟨r7, hm6, h⟩ := g_bv h
      refine g_callXi (As := [.int a2]) hc hG a1 (fJ0_charAt_5068e_lt hm6) (mJ0_charAt_5068e l E hm6) mlX8_59 mcJ0_charAt_5068e miJ0_charAt_5068e rfl rfl hl.1 rfl rfl ⟨by decide, by decide⟩ (Nat.le_of_ble_eq_true rfl) ⟨by decide, by decide⟩ dX8_isSpelt_41 rfl (fun H locs hG => ?_)
      refine lv_icmp_eq (tgt := 49) hx hb dX8_isSpelt_44 (by decide) (fun c8 => ?_) (fun c8 => ?_)
      · have h := g_pos c8 h
        obtain ⟨v9, ev9⟩ : ∃ y : Int32, y = (a2 + (1 : Int32)) := ⟨_, rfl⟩
        have h := g_let ev9 h
        refine lv_iinc (v := v9) (lv' := [(2, .int v9), (0, gR E 32), (1, .ref (E.2.2.2.1 a1))]) hx hb dX8_isSpelt_49 hl (k := 2) rfl (by rw [ev9]; rfl) (by decide) rfl (fun ls hl => ?_)
        refine lv_goto (tgt := 20) hx hb dX8_isSpelt_52 (by decide) ?_
        exact ih S a1 v9 _ _ _ (lv_sub hl [1, 2, 0] rfl) hG h
      · have h := g_neg c8 h
        refine lv_iconst (v := (0 : Int32)) hx hb dX8_isSpelt_47 (by decide) ?_
        exact g_zretp hc hG (Or.inl rfl) dX8_isSpelt_48 h
def fX8_isSpelt (S : GS) (a1 : Nat) : Option Int32 := gbv (fJ0_length_8abf5 S a1) fun r2 => (if r2 = ((S.1 32 2) - (S.1 32 4)) then glet (0 : Int32) fun v4 => (fX8_isSpelt_20 FU S a1 v4) else (some (0 : Int32)))
set_option maxRecDepth 100000 in
set_option maxHeartbeats 4000000 in
theorem wX8_isSpelt_0 {p : Program} {l : Launch} {e : Env} {s : State} {m : MethodId} {args : Array Value} {below : List Frame} {meth : Method} {c : Code} {E : GE} {res : Int32} (hc : GM E p s m args meth c RX8 cX8_isSpelt 3 (some .boolean)) : ∀ (S : GS) (a1 : Nat) (H : Heap) (locs : List Loc) (ls : Array Slot), lv_has ls 3 [(0, gR E 32), (1, .ref (E.2.2.2.1 a1))] → GX E S H locs → fX8_isSpelt S a1 = some res → W p l e rmX8_isSpelt s m args below meth c H locs 0 0 (gZ E below args s (some (.int res)) S) (F0 m 0 ls []) := by
  obtain ⟨hx, hb, -, -, -, hown, hts, -, -⟩ := id hc
  intro S a1 H locs ls hl hG h
  unfold fX8_isSpelt at h
  refine lv_aload_n hx hb dX8_isSpelt_0 rfl (lv_at hl 1 rfl) ?_
  obtain ⟨r2, hm1, h⟩ := g_bv h
  refine g_callXi (As := []) hc hG a1 (fJ0_length_8abf5_lt hm1) (mJ0_length_8abf5 l E hm1) mlX8_54 mcJ0_length_8abf5 miJ0_length_8abf5 rfl rfl hl.1 rfl rfl ⟨by decide, by decide⟩ (Nat.le_of_ble_eq_true rfl) ⟨by decide, by decide⟩ dX8_isSpelt_1 rfl (fun H locs hG => ?_)
  refine lv_aload_n hx hb dX8_isSpelt_4 rfl (lv_at hl 0 rfl) ?_
  refine g_getI hc hG 32 flX8_25 rfl rfl dX8_isSpelt_5 ?_
  refine lv_aload_n hx hb dX8_isSpelt_8 rfl (lv_at hl 0 rfl) ?_
  refine g_getI hc hG 32 flX8_31 rfl rfl dX8_isSpelt_9 ?_
  refine lv_isub hx hb dX8_isSpelt_12 ?_
  refine lv_icmp_eq (tgt := 18) hx hb dX8_isSpelt_13 (by decide) (fun c3 => ?_) (fun c3 => ?_)
  · have h := g_pos c3 h
    refine lv_iconst (v := (0 : Int32)) hx hb dX8_isSpelt_18 (by decide) ?_
    refine lv_topi (fun v4 ev4 => ?_)
    have h := g_let ev4 h
    refine lv_istore_n (lv' := [(2, .int v4), (0, gR E 32), (1, .ref (E.2.2.2.1 a1))]) hx hb dX8_isSpelt_19 rfl hl (by decide) rfl (fun ls hl => ?_)
    exact wX8_isSpelt_20 hc FU S a1 v4 _ _ _ (lv_sub hl [1, 2, 0] rfl) hG h
  · have h := g_neg c3 h
    refine lv_iconst (v := (0 : Int32)) hx hb dX8_isSpelt_16 (by decide) ?_
    exact g_zretp hc hG (Or.inl rfl) dX8_isSpelt_17 h
theorem mX8_isSpelt (l : Launch) (E : GE) {S : GS} {a1 : Nat} {res : Int32} (h : fX8_isSpelt S a1 = some res) : gMet l E yX8_isSpelt cX8_isSpelt 3 (some .boolean) rmX8_isSpelt [gR E 32, .ref (E.2.2.2.1 a1)] S (some (.int res)) S :=
  g_met (by decide) (Nat.le_of_ble_eq_true rfl) rfl fun p e s m below meth c H ls hc hG hl => wX8_isSpelt_0 hc S a1 H [] ls hl hG h
abbrev rmX8_takeWord : Room := { frames := 5, cells := 0, slots := 0, locals := 107 }
def fX8_takeWord_60 : Nat → GS → Int32 → Option (Unit × GS)
  | 0, _, _ => none
  | n + 1, S, a1 => (if (30 : Int32) < a1 then (some ((), S)) else gbv (fX8_wordOf S a1) fun r3 => gbv (fX8_isSpelt S r3) fun r5 => (if r5 = 0 then glet (a1 + (1 : Int32)) fun v7 => (fX8_takeWord_60 n S v7) else glet (gsi S 32 3 a1) fun S8 => glet (a1 + (1 : Int32)) fun v9 => (fX8_takeWord_60 n S8 v9)))
set_option maxRecDepth 100000 in
set_option maxHeartbeats 4000000 in
theorem wX8_takeWord_60 {p : Program} {l : Launch} {e : Env} {s : State} {m : MethodId} {args : Array Value} {below : List Frame} {meth : Method} {c : Code} {E : GE} {res : (Unit × GS)} (hc : GM E p s m args meth c RX8 cX8_takeWord 2 none) : ∀ (n : Nat), ∀ (S : GS) (a1 : Int32) (H : Heap) (locs : List Loc) (ls : Array Slot), lv_has ls 2 [(0, gR E 32), (1, .int a1)] → GX E S H locs → fX8_takeWord_60 n S a1 = some res → W p l e rmX8_takeWord s m args below meth c H locs 0 0 (gZ E below args s none res.2) (F0 m 60 ls []) := by
  obtain ⟨hx, hb, -, -, -, hown, hts, -, -⟩ := id hc
  intro n
  induction n with
  | zero => intro S a1 H locs ls hl hG h; cases h
  | succ n ih =>
    intro S a1 H locs ls hl hG h
    rw [fX8_takeWord_60] at h
    refine lv_iload_n hx hb dX8_takeWord_60 rfl (lv_at hl 1 rfl) ?_
    refine lv_bipush (v := (30 : Int32)) hx hb dX8_takeWord_61 (by decide) ?_
    refine lv_icmp_gt (tgt := 88) hx hb dX8_takeWord_63 (by decide) (fun c1 => ?_) (fun c1 => ?_)
    · have h := g_pos c1 h
      exact g_vret hc hG dX8_takeWord_88 h
    · have h := g_neg c1 h
      refine lv_aload_n hx hb dX8_takeWord_66 rfl (lv_at hl 0 rfl) ?_
      refine lv_iload_n hx hb dX8_takeWord_67 rfl (lv_at hl 1 rfl) ?_
      obtain ⟨r3, hm2, h⟩ := g_bv h
      refine g_callSs (As := [.int a1]) hc hG (mX8_wordOf l E hm2) mlX8_46 mcX8_wordOf msX8_wordOf rfl hl.1 rfl rfl ⟨by decide, by decide⟩ (Nat.le_of_ble_eq_true rfl) ⟨by decide, by decide⟩ dX8_takeWord_68 rfl (fun H locs hG => ?_)
      obtain ⟨r5, hm4, h⟩ := g_bv h
      refine g_callVi (As := [.ref (E.2.2.2.1 r3)]) hc hG (mX8_isSpelt l E hm4) mlX8_50 mcX8_isSpelt miX8_isSpelt rfl rfl rfl rfl hl.1 rfl rfl ⟨by decide, by decide⟩ (Nat.le_of_ble_eq_true rfl) ⟨by decide, by decide⟩ dX8_takeWord_71 rfl (fun H locs hG => ?_)
      refine lv_if_eq (tgt := 82) hx hb dX8_takeWord_74 (by decide) (fun c6 => ?_) (fun c6 => ?_)
      · have h := g_pos c6 h
        obtain ⟨v7, ev7⟩ : ∃ y : Int32, y = (a1 + (1 : Int32)) := ⟨_, rfl⟩
        have h := g_let ev7 h
        refine lv_iinc (v := v7) (lv' := [(1, .int v7), (0, gR E 32)]) hx hb dX8_takeWord_82 hl (k := 1) rfl (by rw [ev7]; rfl) (by decide) rfl (fun ls hl => ?_)
        refine lv_goto (tgt := 60) hx hb dX8_takeWord_85 (by decide) ?_
        exact ih S v7 _ _ _ (lv_sub hl [1, 0] rfl) hG h
      · have h := g_neg c6 h
        refine lv_aload_n hx hb dX8_takeWord_77 rfl (lv_at hl 0 rfl) ?_
        refine lv_iload_n hx hb dX8_takeWord_78 rfl (lv_at hl 1 rfl) ?_
        refine g_putI hc hG 32 fpX8_34 rfl rfl rfl rfl dX8_takeWord_79 (fun S8 H locs eS8 hG => ?_)
        have h := g_let eS8 h
        obtain ⟨v9, ev9⟩ : ∃ y : Int32, y = (a1 + (1 : Int32)) := ⟨_, rfl⟩
        have h := g_let ev9 h
        refine lv_iinc (v := v9) (lv' := [(1, .int v9), (0, gR E 32)]) hx hb dX8_takeWord_82 hl (k := 1) rfl (by rw [ev9]; rfl) (by decide) rfl (fun ls hl => ?_)
        refine lv_goto (tgt := 60) hx hb dX8_takeWord_85 (by decide) ?_
        exact ih S8 v9 _ _ _ (lv_sub hl [1, 0] rfl) hG h
def fX8_takeWord_52 (S : GS) : Option (Unit × GS) := glet (gsi S 32 3 (2 : Int32)) fun S1 => glet (17 : Int32) fun v2 => (fX8_takeWord_60 FU S1 v2)
set_option maxRecDepth 100000 in
set_option maxHeartbeats 4000000 in
theorem wX8_takeWord_52 {p : Program} {l : Launch} {e : Env} {s : State} {m : MethodId} {args : Array Value} {below : List Frame} {meth : Method} {c : Code} {E : GE} {res : (Unit × GS)} (hc : GM E p s m args meth c RX8 cX8_takeWord 2 none) : ∀ (S : GS) (H : Heap) (locs : List Loc) (ls : Array Slot), lv_has ls 2 [(0, gR E 32)] → GX E S H locs → fX8_takeWord_52 S = some res → W p l e rmX8_takeWord s m args below meth c H locs 0 0 (gZ E below args s none res.2) (F0 m 52 ls []) := by
  obtain ⟨hx, hb, -, -, -, hown, hts, -, -⟩ := id hc
  intro S H locs ls hl hG h
  unfold fX8_takeWord_52 at h
  refine lv_aload_n hx hb dX8_takeWord_52 rfl (lv_at hl 0 rfl) ?_
  refine lv_iconst (v := (2 : Int32)) hx hb dX8_takeWord_53 (by decide) ?_
  refine g_putI hc hG 32 fpX8_34 rfl rfl rfl rfl dX8_takeWord_54 (fun S1 H locs eS1 hG => ?_)
  have h := g_let eS1 h
  refine lv_bipush (v := (17 : Int32)) hx hb dX8_takeWord_57 (by decide) ?_
  refine lv_topi (fun v2 ev2 => ?_)
  have h := g_let ev2 h
  refine lv_istore_n (lv' := [(1, .int v2), (0, gR E 32)]) hx hb dX8_takeWord_59 rfl hl (by decide) rfl (fun ls hl => ?_)
  exact wX8_takeWord_60 hc FU S1 v2 _ _ _ (lv_sub hl [1, 0] rfl) hG h
def fX8_takeWord_0 : Nat → GS → Option (Unit × GS)
  | 0, _ => none
  | n + 1, S => (if (S.1 32 1) ≤ (S.1 32 2) then (fX8_takeWord_52 S) else (if gk (S.2.2 4) = 13 then (if gib (S.1 32 2) (gn (S.2.2 4)) = true then (if (S.1 (S.2.2 4) ((S.1 32 2)).toNatClampNeg) < (97 : Int32) then (fX8_takeWord_52 S) else (if (122 : Int32) < (S.1 (S.2.2 4) ((S.1 32 2)).toNatClampNeg) then (fX8_takeWord_52 S) else glet (gsi S 32 2 ((S.1 32 2) + (1 : Int32))) fun S6 => (fX8_takeWord_0 n S6))) else none) else none))
set_option maxRecDepth 100000 in
set_option maxHeartbeats 4000000 in
theorem wX8_takeWord_0 {p : Program} {l : Launch} {e : Env} {s : State} {m : MethodId} {args : Array Value} {below : List Frame} {meth : Method} {c : Code} {E : GE} {res : (Unit × GS)} (hc : GM E p s m args meth c RX8 cX8_takeWord 2 none) : ∀ (n : Nat), ∀ (S : GS) (H : Heap) (locs : List Loc) (ls : Array Slot), lv_has ls 2 [(0, gR E 32)] → GX E S H locs → fX8_takeWord_0 n S = some res → W p l e rmX8_takeWord s m args below meth c H locs 0 0 (gZ E below args s none res.2) (F0 m 0 ls []) := by
  obtain ⟨hx, hb, -, -, -, hown, hts, -, -⟩ := id hc
  intro n
  induction n with
  | zero => intro S H locs ls hl hG h; cases h
  | succ n ih =>
    intro S H locs ls hl hG h
    rw [fX8_takeWord_0] at h
    refine lv_aload_n hx hb dX8_takeWord_0 rfl (lv_at hl 0 rfl) ?_
    refine g_getI hc hG 32 flX8_25 rfl rfl dX8_takeWord_1 ?_
    refine lv_aload_n hx hb dX8_takeWord_4 rfl (lv_at hl 0 rfl) ?_
    refine g_getI hc hG 32 flX8_21 rfl rfl dX8_takeWord_5 ?_
    refine lv_icmp_ge (tgt := 52) hx hb dX8_takeWord_8 (by decide) (fun c1 => ?_) (fun c1 => ?_)
    · have h := g_pos c1 h
      exact wX8_takeWord_52 hc S _ _ _ (lv_sub hl [0] rfl) hG h
    · have h := g_neg c1 h
      refine lv_aload_n hx hb dX8_takeWord_11 rfl (lv_at hl 0 rfl) ?_
      refine g_getR hc hG 32 (S.2.2 4) flX8_9 rfl rfl rfl dX8_takeWord_12 ?_
      refine lv_aload_n hx hb dX8_takeWord_15 rfl (lv_at hl 0 rfl) ?_
      refine g_getI hc hG 32 flX8_25 rfl rfl dX8_takeWord_16 ?_
      obtain ⟨hk2, h⟩ := g_if h
      obtain ⟨hi3, h⟩ := g_if h
      refine g_bald hc hG (S.2.2 4) (gn (S.2.2 4)) (((S.1 32 2)).toNatClampNeg) hk2 rfl hi3 rfl dX8_takeWord_19 ?_
      refine lv_bipush (v := (97 : Int32)) hx hb dX8_takeWord_20 (by decide) ?_
      refine lv_icmp_lt (tgt := 52) hx hb dX8_takeWord_22 (by decide) (fun c4 => ?_) (fun c4 => ?_)
      · have h := g_pos c4 h
        exact wX8_takeWord_52 hc S _ _ _ (lv_sub hl [0] rfl) hG h
      · have h := g_neg c4 h
        refine lv_aload_n hx hb dX8_takeWord_25 rfl (lv_at hl 0 rfl) ?_
        refine g_getR hc hG 32 (S.2.2 4) flX8_9 rfl rfl rfl dX8_takeWord_26 ?_
        refine lv_aload_n hx hb dX8_takeWord_29 rfl (lv_at hl 0 rfl) ?_
        refine g_getI hc hG 32 flX8_25 rfl rfl dX8_takeWord_30 ?_
        refine g_bald hc hG (S.2.2 4) (gn (S.2.2 4)) (((S.1 32 2)).toNatClampNeg) hk2 rfl hi3 rfl dX8_takeWord_33 ?_
        refine lv_bipush (v := (122 : Int32)) hx hb dX8_takeWord_34 (by decide) ?_
        refine lv_icmp_gt (tgt := 52) hx hb dX8_takeWord_36 (by decide) (fun c5 => ?_) (fun c5 => ?_)
        · have h := g_pos c5 h
          exact wX8_takeWord_52 hc S _ _ _ (lv_sub hl [0] rfl) hG h
        · have h := g_neg c5 h
          refine lv_aload_n hx hb dX8_takeWord_39 rfl (lv_at hl 0 rfl) ?_
          refine lv_dup hx hb dX8_takeWord_40 rfl ?_
          refine g_getI hc hG 32 flX8_25 rfl rfl dX8_takeWord_41 ?_
          refine lv_iconst (v := (1 : Int32)) hx hb dX8_takeWord_44 (by decide) ?_
          refine lv_iadd hx hb dX8_takeWord_45 ?_
          refine g_putI hc hG 32 fpX8_25 rfl rfl rfl rfl dX8_takeWord_46 (fun S6 H locs eS6 hG => ?_)
          have h := g_let eS6 h
          refine lv_goto (tgt := 0) hx hb dX8_takeWord_49 (by decide) ?_
          exact ih S6 _ _ _ (lv_sub hl [0] rfl) hG h
def fX8_takeWord (S : GS) : Option (Unit × GS) := fX8_takeWord_0 FU S
theorem mX8_takeWord (l : Launch) (E : GE) {S : GS} {res : (Unit × GS)} (h : fX8_takeWord S = some res) : gMet l E yX8_takeWord cX8_takeWord 2 none rmX8_takeWord [gR E 32] S none res.2 :=
  g_met (by decide) (Nat.le_of_ble_eq_true rfl) rfl fun p e s m below meth c H ls hc hG hl => wX8_takeWord_0 hc FU S H [] ls hl hG h
abbrev rmX8_takeNumber : Room := { frames := 0, cells := 0, slots := 0, locals := 0 }
def fX8_takeNumber_78 (k5 : GS → Option (Unit × GS)) (S : GS) : Option (Unit × GS) := glet (gsi S 32 2 ((S.1 32 2) + (1 : Int32))) fun S1 => (k5 S1)
set_option maxRecDepth 100000 in
set_option maxHeartbeats 4000000 in
theorem wX8_takeNumber_78 {p : Program} {l : Launch} {e : Env} {s : State} {m : MethodId} {args : Array Value} {below : List Frame} {meth : Method} {c : Code} {E : GE} {res : (Unit × GS)} {k5 : GS → Option (Unit × GS)} (hc : GM E p s m args meth c RX8 cX8_takeNumber 1 none) (hk5 : ∀ (S : GS) (H : Heap) (locs : List Loc) (ls : Array Slot), lv_has ls 1 [(0, gR E 32)] → GX E S H locs → k5 S = some res → W p l e rmX8_takeNumber s m args below meth c H locs 0 0 (gZ E below args s none res.2) (F0 m 5 ls [])) : ∀ (S : GS) (H : Heap) (locs : List Loc) (ls : Array Slot), lv_has ls 1 [(0, gR E 32)] → GX E S H locs → fX8_takeNumber_78 k5 S = some res → W p l e rmX8_takeNumber s m args below meth c H locs 0 0 (gZ E below args s none res.2) (F0 m 78 ls []) := by
  obtain ⟨hx, hb, -, -, -, hown, hts, -, -⟩ := id hc
  intro S H locs ls hl hG h
  unfold fX8_takeNumber_78 at h
  refine lv_aload_n hx hb dX8_takeNumber_78 rfl (lv_at hl 0 rfl) ?_
  refine lv_dup hx hb dX8_takeNumber_79 rfl ?_
  refine g_getI hc hG 32 flX8_25 rfl rfl dX8_takeNumber_80 ?_
  refine lv_iconst (v := (1 : Int32)) hx hb dX8_takeNumber_83 (by decide) ?_
  refine lv_iadd hx hb dX8_takeNumber_84 ?_
  refine g_putI hc hG 32 fpX8_25 rfl rfl rfl rfl dX8_takeNumber_85 (fun S1 H locs eS1 hG => ?_)
  have h := g_let eS1 h
  refine lv_goto (tgt := 5) hx hb dX8_takeNumber_88 (by decide) ?_
  exact hk5 S1 _ _ _ (lv_sub hl [0] rfl) hG h
def fX8_takeNumber_5 : Nat → GS → Option (Unit × GS)
  | 0, _ => none
  | n + 1, S => (if (S.1 32 1) ≤ (S.1 32 2) then glet (gsi S 32 3 (3 : Int32)) fun S2 => (some ((), S2)) else (if gk (S.2.2 4) = 13 then (if gib (S.1 32 2) (gn (S.2.2 4)) = true then (if (S.1 (S.2.2 4) ((S.1 32 2)).toNatClampNeg) < (48 : Int32) then glet (gsi S 32 3 (3 : Int32)) fun S6 => (some ((), S6)) else (if (57 : Int32) < (S.1 (S.2.2 4) ((S.1 32 2)).toNatClampNeg) then glet (gsi S 32 3 (3 : Int32)) fun S8 => (some ((), S8)) else (if (9999 : Int32) < (S.1 32 5) then (fX8_takeNumber_78 (fX8_takeNumber_5 n) S) else glet (gsi S 32 5 (((S.1 32 5) * (10 : Int32)) + ((S.1 (S.2.2 4) ((S.1 32 2)).toNatClampNeg) - (48 : Int32)))) fun S10 => (fX8_takeNumber_78 (fX8_takeNumber_5 n) S10)))) else none) else none))
set_option maxRecDepth 100000 in
set_option maxHeartbeats 4000000 in
theorem wX8_takeNumber_5 {p : Program} {l : Launch} {e : Env} {s : State} {m : MethodId} {args : Array Value} {below : List Frame} {meth : Method} {c : Code} {E : GE} {res : (Unit × GS)} (hc : GM E p s m args meth c RX8 cX8_takeNumber 1 none) : ∀ (n : Nat), ∀ (S : GS) (H : Heap) (locs : List Loc) (ls : Array Slot), lv_has ls 1 [(0, gR E 32)] → GX E S H locs → fX8_takeNumber_5 n S = some res → W p l e rmX8_takeNumber s m args below meth c H locs 0 0 (gZ E below args s none res.2) (F0 m 5 ls []) := by
  obtain ⟨hx, hb, -, -, -, hown, hts, -, -⟩ := id hc
  intro n
  induction n with
  | zero => intro S H locs ls hl hG h; cases h
  | succ n ih =>
    intro S H locs ls hl hG h
    rw [fX8_takeNumber_5] at h
    refine lv_aload_n hx hb dX8_takeNumber_5 rfl (lv_at hl 0 rfl) ?_
    refine g_getI hc hG 32 flX8_25 rfl rfl dX8_takeNumber_6 ?_
    refine lv_aload_n hx hb dX8_takeNumber_9 rfl (lv_at hl 0 rfl) ?_
    refine g_getI hc hG 32 flX8_21 rfl rfl dX8_takeNumber_10 ?_
    refine lv_icmp_ge (tgt := 91) hx hb dX8_takeNumber_13 (by decide) (fun c1 => ?_) (fun c1 => ?_)
    · have h := g_pos c1 h
      refine lv_aload_n hx hb dX8_takeNumber_91 rfl (lv_at hl 0 rfl) ?_
      refine lv_iconst (v := (3 : Int32)) hx hb dX8_takeNumber_92 (by decide) ?_
      refine g_putI hc hG 32 fpX8_34 rfl rfl rfl rfl dX8_takeNumber_93 (fun S2 H locs eS2 hG => ?_)
      have h := g_let eS2 h
      exact g_vret hc hG dX8_takeNumber_96 h
    · have h := g_neg c1 h
      refine lv_aload_n hx hb dX8_takeNumber_16 rfl (lv_at hl 0 rfl) ?_
      refine g_getR hc hG 32 (S.2.2 4) flX8_9 rfl rfl rfl dX8_takeNumber_17 ?_
      refine lv_aload_n hx hb dX8_takeNumber_20 rfl (lv_at hl 0 rfl) ?_
      refine g_getI hc hG 32 flX8_25 rfl rfl dX8_takeNumber_21 ?_
      obtain ⟨hk3, h⟩ := g_if h
      obtain ⟨hi4, h⟩ := g_if h
      refine g_bald hc hG (S.2.2 4) (gn (S.2.2 4)) (((S.1 32 2)).toNatClampNeg) hk3 rfl hi4 rfl dX8_takeNumber_24 ?_
      refine lv_bipush (v := (48 : Int32)) hx hb dX8_takeNumber_25 (by decide) ?_
      refine lv_icmp_lt (tgt := 91) hx hb dX8_takeNumber_27 (by decide) (fun c5 => ?_) (fun c5 => ?_)
      · have h := g_pos c5 h
        refine lv_aload_n hx hb dX8_takeNumber_91 rfl (lv_at hl 0 rfl) ?_
        refine lv_iconst (v := (3 : Int32)) hx hb dX8_takeNumber_92 (by decide) ?_
        refine g_putI hc hG 32 fpX8_34 rfl rfl rfl rfl dX8_takeNumber_93 (fun S6 H locs eS6 hG => ?_)
        have h := g_let eS6 h
        exact g_vret hc hG dX8_takeNumber_96 h
      · have h := g_neg c5 h
        refine lv_aload_n hx hb dX8_takeNumber_30 rfl (lv_at hl 0 rfl) ?_
        refine g_getR hc hG 32 (S.2.2 4) flX8_9 rfl rfl rfl dX8_takeNumber_31 ?_
        refine lv_aload_n hx hb dX8_takeNumber_34 rfl (lv_at hl 0 rfl) ?_
        refine g_getI hc hG 32 flX8_25 rfl rfl dX8_takeNumber_35 ?_
        refine g_bald hc hG (S.2.2 4) (gn (S.2.2 4)) (((S.1 32 2)).toNatClampNeg) hk3 rfl hi4 rfl dX8_takeNumber_38 ?_
        refine lv_bipush (v := (57 : Int32)) hx hb dX8_takeNumber_39 (by decide) ?_
        refine lv_icmp_gt (tgt := 91) hx hb dX8_takeNumber_41 (by decide) (fun c7 => ?_) (fun c7 => ?_)
        · have h := g_pos c7 h
          refine lv_aload_n hx hb dX8_takeNumber_91 rfl (lv_at hl 0 rfl) ?_
          refine lv_iconst (v := (3 : Int32)) hx hb dX8_takeNumber_92 (by decide) ?_
          refine g_putI hc hG 32 fpX8_34 rfl rfl rfl rfl dX8_takeNumber_93 (fun S8 H locs eS8 hG => ?_)
          have h := g_let eS8 h
          exact g_vret hc hG dX8_takeNumber_96 h
        · have h := g_neg c7 h
          refine lv_aload_n hx hb dX8_takeNumber_44 rfl (lv_at hl 0 rfl) ?_
          refine g_getI hc hG 32 flX8_63 rfl rfl dX8_takeNumber_45 ?_
          refine lv_sipush (v := (9999 : Int32)) hx hb dX8_takeNumber_48 (by decide) ?_
          refine lv_icmp_gt (tgt := 78) hx hb dX8_takeNumber_51 (by decide) (fun c9 => ?_) (fun c9 => ?_)
          · have h := g_pos c9 h
            exact wX8_takeNumber_78 hc ih S _ _ _ (lv_sub hl [0] rfl) hG h
          · have h := g_neg c9 h
            refine lv_aload_n hx hb dX8_takeNumber_54 rfl (lv_at hl 0 rfl) ?_
            refine lv_aload_n hx hb dX8_takeNumber_55 rfl (lv_at hl 0 rfl) ?_
            refine g_getI hc hG 32 flX8_63 rfl rfl dX8_takeNumber_56 ?_
            refine lv_bipush (v := (10 : Int32)) hx hb dX8_takeNumber_59 (by decide) ?_
            refine lv_imul hx hb dX8_takeNumber_61 ?_
            refine lv_aload_n hx hb dX8_takeNumber_62 rfl (lv_at hl 0 rfl) ?_
            refine g_getR hc hG 32 (S.2.2 4) flX8_9 rfl rfl rfl dX8_takeNumber_63 ?_
            refine lv_aload_n hx hb dX8_takeNumber_66 rfl (lv_at hl 0 rfl) ?_
            refine g_getI hc hG 32 flX8_25 rfl rfl dX8_takeNumber_67 ?_
            refine g_bald hc hG (S.2.2 4) (gn (S.2.2 4)) (((S.1 32 2)).toNatClampNeg) hk3 rfl hi4 rfl dX8_takeNumber_70 ?_
            refine lv_bipush (v := (48 : Int32)) hx hb dX8_takeNumber_71 (by decide) ?_
            refine lv_isub hx hb dX8_takeNumber_73 ?_
            refine lv_iadd hx hb dX8_takeNumber_74 ?_
            refine g_putI hc hG 32 fpX8_63 rfl rfl rfl rfl dX8_takeNumber_75 (fun S10 H locs eS10 hG => ?_)
            have h := g_let eS10 h
            exact wX8_takeNumber_78 hc ih S10 _ _ _ (lv_sub hl [0] rfl) hG h
def fX8_takeNumber (S : GS) : Option (Unit × GS) := glet (gsi S 32 5 (0 : Int32)) fun S1 => (fX8_takeNumber_5 FU S1)
set_option maxRecDepth 100000 in
set_option maxHeartbeats 4000000 in
theorem wX8_takeNumber_0 {p : Program} {l : Launch} {e : Env} {s : State} {m : MethodId} {args : Array Value} {below : List Frame} {meth : Method} {c : Code} {E : GE} {res : (Unit × GS)} (hc : GM E p s m args meth c RX8 cX8_takeNumber 1 none) : ∀ (S : GS) (H : Heap) (locs : List Loc) (ls : Array Slot), lv_has ls 1 [(0, gR E 32)] → GX E S H locs → fX8_takeNumber S = some res → W p l e rmX8_takeNumber s m args below meth c H locs 0 0 (gZ E below args s none res.2) (F0 m 0 ls []) := by
  obtain ⟨hx, hb, -, -, -, hown, hts, -, -⟩ := id hc
  intro S H locs ls hl hG h
  unfold fX8_takeNumber at h
  refine lv_aload_n hx hb dX8_takeNumber_0 rfl (lv_at hl 0 rfl) ?_
  refine lv_iconst (v := (0 : Int32)) hx hb dX8_takeNumber_1 (by decide) ?_
  refine g_putI hc hG 32 fpX8_63 rfl rfl rfl rfl dX8_takeNumber_2 (fun S1 H locs eS1 hG => ?_)
  have h := g_let eS1 h
  exact wX8_takeNumber_5 hc FU S1 _ _ _ (lv_sub hl [0] rfl) hG h
theorem mX8_takeNumber (l : Launch) (E : GE) {S : GS} {res : (Unit × GS)} (h : fX8_takeNumber S = some res) : gMet l E yX8_takeNumber cX8_takeNumber 1 none rmX8_takeNumber [gR E 32] S none res.2 :=
  g_met (by decide) (Nat.le_of_ble_eq_true rfl) rfl fun p e s m below meth c H ls hc hG hl => wX8_takeNumber_0 hc S H [] ls hl hG h
abbrev rmX8_signOf : Room := { frames := 0, cells := 0, slots := 0, locals := 0 }
def fX8_signOf (S : GS) (a0 : Int32) : Option Int32 := (if a0 = (40 : Int32) then (some (5 : Int32)) else (if a0 = (41 : Int32) then (some (6 : Int32)) else (if a0 = (42 : Int32) then (some (15 : Int32)) else (if a0 = (43 : Int32) then (some (13 : Int32)) else (if a0 = (44 : Int32) then (some (2 : Int32)) else (if a0 = (45 : Int32) then (some (14 : Int32)) else (if a0 = (46 : Int32) then (some (2 : Int32)) else (if a0 = (47 : Int32) then (some (16 : Int32)) else (if a0 = (48 : Int32) then (some (2 : Int32)) else (if a0 = (49 : Int32) then (some (2 : Int32)) else (if a0 = (50 : Int32) then (some (2 : Int32)) else (if a0 = (51 : Int32) then (some (2 : Int32)) else (if a0 = (52 : Int32) then (some (2 : Int32)) else (if a0 = (53 : Int32) then (some (2 : Int32)) else (if a0 = (54 : Int32) then (some (2 : Int32)) else (if a0 = (55 : Int32) then (some (2 : Int32)) else (if a0 = (56 : Int32) then (some (2 : Int32)) else (if a0 = (57 : Int32) then (some (2 : Int32)) else (if a0 = (58 : Int32) then (some (2 : Int32)) else (if a0 = (59 : Int32) then (some (4 : Int32)) else (if a0 = (60 : Int32) then (some (7 : Int32)) else (if a0 = (61 : Int32) then (some (9 : Int32)) else (if a0 = (62 : Int32) then (some (12 : Int32)) else (some (2 : Int32)))))))))))))))))))))))))
set_option maxRecDepth 100000 in
set_option maxHeartbeats 4000000 in
theorem wX8_signOf_0 {p : Program} {l : Launch} {e : Env} {s : State} {m : MethodId} {args : Array Value} {below : List Frame} {meth : Method} {c : Code} {E : GE} {res : Int32} (hc : GM E p s m args meth c RX8 cX8_signOf 1 (some .int)) : ∀ (S : GS) (a0 : Int32) (H : Heap) (locs : List Loc) (ls : Array Slot), lv_has ls 1 [(0, .int a0)] → GX E S H locs → fX8_signOf S a0 = some res → W p l e rmX8_signOf s m args below meth c H locs 0 0 (gZ E below args s (some (.int res)) S) (F0 m 0 ls []) := by
  obtain ⟨hx, hb, -, -, -, hown, hts, -, -⟩ := id hc
  intro S a0 H locs ls hl hG h
  unfold fX8_signOf at h
  refine lv_iload_n hx hb dX8_signOf_0 rfl (lv_at hl 0 rfl) ?_
  by_cases c1 : a0 = (40 : Int32)
  · have h := g_pos c1 h
    refine lv_tableIn (off := 109) (tgt := 110) hx hb dX8_signOf_1 (by rw [c1]; decide) (by rw [c1]; decide) (by rw [c1]; decide) (by decide) ?_
    refine lv_iconst (v := (5 : Int32)) hx hb dX8_signOf_110 (by decide) ?_
    exact g_iretp hc hG dX8_signOf_111 h
  have h := g_neg c1 h
  by_cases c2 : a0 = (41 : Int32)
  · have h := g_pos c2 h
    refine lv_tableIn (off := 111) (tgt := 112) hx hb dX8_signOf_1 (by rw [c2]; decide) (by rw [c2]; decide) (by rw [c2]; decide) (by decide) ?_
    refine lv_bipush (v := (6 : Int32)) hx hb dX8_signOf_112 (by decide) ?_
    exact g_iretp hc hG dX8_signOf_114 h
  have h := g_neg c2 h
  by_cases c3 : a0 = (42 : Int32)
  · have h := g_pos c3 h
    refine lv_tableIn (off := 129) (tgt := 130) hx hb dX8_signOf_1 (by rw [c3]; decide) (by rw [c3]; decide) (by rw [c3]; decide) (by decide) ?_
    refine lv_bipush (v := (15 : Int32)) hx hb dX8_signOf_130 (by decide) ?_
    exact g_iretp hc hG dX8_signOf_132 h
  have h := g_neg c3 h
  by_cases c4 : a0 = (43 : Int32)
  · have h := g_pos c4 h
    refine lv_tableIn (off := 123) (tgt := 124) hx hb dX8_signOf_1 (by rw [c4]; decide) (by rw [c4]; decide) (by rw [c4]; decide) (by decide) ?_
    refine lv_bipush (v := (13 : Int32)) hx hb dX8_signOf_124 (by decide) ?_
    exact g_iretp hc hG dX8_signOf_126 h
  have h := g_neg c4 h
  by_cases c5 : a0 = (44 : Int32)
  · have h := g_pos c5 h
    refine lv_tableIn (off := 135) (tgt := 136) hx hb dX8_signOf_1 (by rw [c5]; decide) (by rw [c5]; decide) (by rw [c5]; decide) (by decide) ?_
    refine lv_iconst (v := (2 : Int32)) hx hb dX8_signOf_136 (by decide) ?_
    exact g_iretp hc hG dX8_signOf_137 h
  have h := g_neg c5 h
  by_cases c6 : a0 = (45 : Int32)
  · have h := g_pos c6 h
    refine lv_tableIn (off := 126) (tgt := 127) hx hb dX8_signOf_1 (by rw [c6]; decide) (by rw [c6]; decide) (by rw [c6]; decide) (by decide) ?_
    refine lv_bipush (v := (14 : Int32)) hx hb dX8_signOf_127 (by decide) ?_
    exact g_iretp hc hG dX8_signOf_129 h
  have h := g_neg c6 h
  by_cases c7 : a0 = (46 : Int32)
  · have h := g_pos c7 h
    refine lv_tableIn (off := 135) (tgt := 136) hx hb dX8_signOf_1 (by rw [c7]; decide) (by rw [c7]; decide) (by rw [c7]; decide) (by decide) ?_
    refine lv_iconst (v := (2 : Int32)) hx hb dX8_signOf_136 (by decide) ?_
    exact g_iretp hc hG dX8_signOf_137 h
  have h := g_neg c7 h
  by_cases c8 : a0 = (47 : Int32)
  · have h := g_pos c8 h
    refine lv_tableIn (off := 132) (tgt := 133) hx hb dX8_signOf_1 (by rw [c8]; decide) (by rw [c8]; decide) (by rw [c8]; decide) (by decide) ?_
    refine lv_bipush (v := (16 : Int32)) hx hb dX8_signOf_133 (by decide) ?_
    exact g_iretp hc hG dX8_signOf_135 h
  have h := g_neg c8 h
  by_cases c9 : a0 = (48 : Int32)
  · have h := g_pos c9 h
    refine lv_tableIn (off := 135) (tgt := 136) hx hb dX8_signOf_1 (by rw [c9]; decide) (by rw [c9]; decide) (by rw [c9]; decide) (by decide) ?_
    refine lv_iconst (v := (2 : Int32)) hx hb dX8_signOf_136 (by decide) ?_
    exact g_iretp hc hG dX8_signOf_137 h
  have h := g_neg c9 h
  by_cases c10 : a0 = (49 : Int32)
  · have h := g_pos c10 h
    refine lv_tableIn (off := 135) (tgt := 136) hx hb dX8_signOf_1 (by rw [c10]; decide) (by rw [c10]; decide) (by rw [c10]; decide) (by decide) ?_
    refine lv_iconst (v := (2 : Int32)) hx hb dX8_signOf_136 (by decide) ?_
    exact g_iretp hc hG dX8_signOf_137 h
  have h := g_neg c10 h
  by_cases c11 : a0 = (50 : Int32)
  · have h := g_pos c11 h
    refine lv_tableIn (off := 135) (tgt := 136) hx hb dX8_signOf_1 (by rw [c11]; decide) (by rw [c11]; decide) (by rw [c11]; decide) (by decide) ?_
    refine lv_iconst (v := (2 : Int32)) hx hb dX8_signOf_136 (by decide) ?_
    exact g_iretp hc hG dX8_signOf_137 h
  have h := g_neg c11 h
  by_cases c12 : a0 = (51 : Int32)
  · have h := g_pos c12 h
    refine lv_tableIn (off := 135) (tgt := 136) hx hb dX8_signOf_1 (by rw [c12]; decide) (by rw [c12]; decide) (by rw [c12]; decide) (by decide) ?_
    refine lv_iconst (v := (2 : Int32)) hx hb dX8_signOf_136 (by decide) ?_
    exact g_iretp hc hG dX8_signOf_137 h
  have h := g_neg c12 h
  by_cases c13 : a0 = (52 : Int32)
  · have h := g_pos c13 h
    refine lv_tableIn (off := 135) (tgt := 136) hx hb dX8_signOf_1 (by rw [c13]; decide) (by rw [c13]; decide) (by rw [c13]; decide) (by decide) ?_
    refine lv_iconst (v := (2 : Int32)) hx hb dX8_signOf_136 (by decide) ?_
    exact g_iretp hc hG dX8_signOf_137 h
  have h := g_neg c13 h
  by_cases c14 : a0 = (53 : Int32)
  · have h := g_pos c14 h
    refine lv_tableIn (off := 135) (tgt := 136) hx hb dX8_signOf_1 (by rw [c14]; decide) (by rw [c14]; decide) (by rw [c14]; decide) (by decide) ?_
    refine lv_iconst (v := (2 : Int32)) hx hb dX8_signOf_136 (by decide) ?_
    exact g_iretp hc hG dX8_signOf_137 h
  have h := g_neg c14 h
  by_cases c15 : a0 = (54 : Int32)
  · have h := g_pos c15 h
    refine lv_tableIn (off := 135) (tgt := 136) hx hb dX8_signOf_1 (by rw [c15]; decide) (by rw [c15]; decide) (by rw [c15]; decide) (by decide) ?_
    refine lv_iconst (v := (2 : Int32)) hx hb dX8_signOf_136 (by decide) ?_
    exact g_iretp hc hG dX8_signOf_137 h
  have h := g_neg c15 h
  by_cases c16 : a0 = (55 : Int32)
  · have h := g_pos c16 h
    refine lv_tableIn (off := 135) (tgt := 136) hx hb dX8_signOf_1 (by rw [c16]; decide) (by rw [c16]; decide) (by rw [c16]; decide) (by decide) ?_
    refine lv_iconst (v := (2 : Int32)) hx hb dX8_signOf_136 (by decide) ?_
    exact g_iretp hc hG dX8_signOf_137 h
  have h := g_neg c16 h
  by_cases c17 : a0 = (56 : Int32)
  · have h := g_pos c17 h
    refine lv_tableIn (off := 135) (tgt := 136) hx hb dX8_signOf_1 (by rw [c17]; decide) (by rw [c17]; decide) (by rw [c17]; decide) (by decide) ?_
    refine lv_iconst (v := (2 : Int32)) hx hb dX8_signOf_136 (by decide) ?_
    exact g_iretp hc hG dX8_signOf_137 h
  have h := g_neg c17 h
  by_cases c18 : a0 = (57 : Int32)
  · have h := g_pos c18 h
    refine lv_tableIn (off := 135) (tgt := 136) hx hb dX8_signOf_1 (by rw [c18]; decide) (by rw [c18]; decide) (by rw [c18]; decide) (by decide) ?_
    refine lv_iconst (v := (2 : Int32)) hx hb dX8_signOf_136 (by decide) ?_
    exact g_iretp hc hG dX8_signOf_137 h
  have h := g_neg c18 h
  by_cases c19 : a0 = (58 : Int32)
  · have h := g_pos c19 h
    refine lv_tableIn (off := 135) (tgt := 136) hx hb dX8_signOf_1 (by rw [c19]; decide) (by rw [c19]; decide) (by rw [c19]; decide) (by decide) ?_
    refine lv_iconst (v := (2 : Int32)) hx hb dX8_signOf_136 (by decide) ?_
    exact g_iretp hc hG dX8_signOf_137 h
  have h := g_neg c19 h
  by_cases c20 : a0 = (59 : Int32)
  · have h := g_pos c20 h
    refine lv_tableIn (off := 107) (tgt := 108) hx hb dX8_signOf_1 (by rw [c20]; decide) (by rw [c20]; decide) (by rw [c20]; decide) (by decide) ?_
    refine lv_iconst (v := (4 : Int32)) hx hb dX8_signOf_108 (by decide) ?_
    exact g_iretp hc hG dX8_signOf_109 h
  have h := g_neg c20 h
  by_cases c21 : a0 = (60 : Int32)
  · have h := g_pos c21 h
    refine lv_tableIn (off := 114) (tgt := 115) hx hb dX8_signOf_1 (by rw [c21]; decide) (by rw [c21]; decide) (by rw [c21]; decide) (by decide) ?_
    refine lv_bipush (v := (7 : Int32)) hx hb dX8_signOf_115 (by decide) ?_
    exact g_iretp hc hG dX8_signOf_117 h
  have h := g_neg c21 h
  by_cases c22 : a0 = (61 : Int32)
  · have h := g_pos c22 h
    refine lv_tableIn (off := 117) (tgt := 118) hx hb dX8_signOf_1 (by rw [c22]; decide) (by rw [c22]; decide) (by rw [c22]; decide) (by decide) ?_
    refine lv_bipush (v := (9 : Int32)) hx hb dX8_signOf_118 (by decide) ?_
    exact g_iretp hc hG dX8_signOf_120 h
  have h := g_neg c22 h
  by_cases c23 : a0 = (62 : Int32)
  · have h := g_pos c23 h
    refine lv_tableIn (off := 120) (tgt := 121) hx hb dX8_signOf_1 (by rw [c23]; decide) (by rw [c23]; decide) (by rw [c23]; decide) (by decide) ?_
    refine lv_bipush (v := (12 : Int32)) hx hb dX8_signOf_121 (by decide) ?_
    exact g_iretp hc hG dX8_signOf_123 h
  have h := g_neg c23 h
  have zc1 : ¬ Int32.toInt a0 = 40 := fun q => c1 (Int32.toInt_inj.mp (q.trans (by decide)))
  have zc2 : ¬ Int32.toInt a0 = 41 := fun q => c2 (Int32.toInt_inj.mp (q.trans (by decide)))
  have zc3 : ¬ Int32.toInt a0 = 42 := fun q => c3 (Int32.toInt_inj.mp (q.trans (by decide)))
  have zc4 : ¬ Int32.toInt a0 = 43 := fun q => c4 (Int32.toInt_inj.mp (q.trans (by decide)))
  have zc5 : ¬ Int32.toInt a0 = 44 := fun q => c5 (Int32.toInt_inj.mp (q.trans (by decide)))
  have zc6 : ¬ Int32.toInt a0 = 45 := fun q => c6 (Int32.toInt_inj.mp (q.trans (by decide)))
  have zc7 : ¬ Int32.toInt a0 = 46 := fun q => c7 (Int32.toInt_inj.mp (q.trans (by decide)))
  have zc8 : ¬ Int32.toInt a0 = 47 := fun q => c8 (Int32.toInt_inj.mp (q.trans (by decide)))
  have zc9 : ¬ Int32.toInt a0 = 48 := fun q => c9 (Int32.toInt_inj.mp (q.trans (by decide)))
  have zc10 : ¬ Int32.toInt a0 = 49 := fun q => c10 (Int32.toInt_inj.mp (q.trans (by decide)))
  have zc11 : ¬ Int32.toInt a0 = 50 := fun q => c11 (Int32.toInt_inj.mp (q.trans (by decide)))
  have zc12 : ¬ Int32.toInt a0 = 51 := fun q => c12 (Int32.toInt_inj.mp (q.trans (by decide)))
  have zc13 : ¬ Int32.toInt a0 = 52 := fun q => c13 (Int32.toInt_inj.mp (q.trans (by decide)))
  have zc14 : ¬ Int32.toInt a0 = 53 := fun q => c14 (Int32.toInt_inj.mp (q.trans (by decide)))
  have zc15 : ¬ Int32.toInt a0 = 54 := fun q => c15 (Int32.toInt_inj.mp (q.trans (by decide)))
  have zc16 : ¬ Int32.toInt a0 = 55 := fun q => c16 (Int32.toInt_inj.mp (q.trans (by decide)))
  have zc17 : ¬ Int32.toInt a0 = 56 := fun q => c17 (Int32.toInt_inj.mp (q.trans (by decide)))
  have zc18 : ¬ Int32.toInt a0 = 57 := fun q => c18 (Int32.toInt_inj.mp (q.trans (by decide)))
  have zc19 : ¬ Int32.toInt a0 = 58 := fun q => c19 (Int32.toInt_inj.mp (q.trans (by decide)))
  have zc20 : ¬ Int32.toInt a0 = 59 := fun q => c20 (Int32.toInt_inj.mp (q.trans (by decide)))
  have zc21 : ¬ Int32.toInt a0 = 60 := fun q => c21 (Int32.toInt_inj.mp (q.trans (by decide)))
  have zc22 : ¬ Int32.toInt a0 = 61 := fun q => c22 (Int32.toInt_inj.mp (q.trans (by decide)))
  have zc23 : ¬ Int32.toInt a0 = 62 := fun q => c23 (Int32.toInt_inj.mp (q.trans (by decide)))
  refine lv_tableOut (tgt := 136) hx hb dX8_signOf_1 (by omega) (by decide) ?_
  refine lv_iconst (v := (2 : Int32)) hx hb dX8_signOf_136 (by decide) ?_
  exact g_iretp hc hG dX8_signOf_137 h
theorem mX8_signOf (l : Launch) (E : GE) {S : GS} {a0 : Int32} {res : Int32} (h : fX8_signOf S a0 = some res) : gMet l E yX8_signOf cX8_signOf 1 (some .int) rmX8_signOf [.int a0] S (some (.int res)) S :=
  g_met (by decide) (Nat.le_of_ble_eq_true rfl) rfl fun p e s m below meth c H ls hc hG hl => wX8_signOf_0 hc S a0 H [] ls hl hG h
abbrev rmX8_takeSign : Room := { frames := 1, cells := 0, slots := 0, locals := 20 }
def fX8_takeSign_115 (S : GS) (a1 : Int32) (a2 : Int32) : Option (Unit × GS) := (if a1 = (62 : Int32) then (if a2 = (61 : Int32) then glet (gsi S 32 3 (11 : Int32)) fun S3 => glet (gsi S3 32 2 ((S3.1 32 2) + (1 : Int32))) fun S4 => (some ((), S4)) else (some ((), S))) else (some ((), S)))
set_option maxRecDepth 100000 in
set_option maxHeartbeats 4000000 in
theorem wX8_takeSign_115 {p : Program} {l : Launch} {e : Env} {s : State} {m : MethodId} {args : Array Value} {below : List Frame} {meth : Method} {c : Code} {E : GE} {res : (Unit × GS)} (hc : GM E p s m args meth c RX8 cX8_takeSign 3 none) : ∀ (S : GS) (a1 : Int32) (a2 : Int32) (H : Heap) (locs : List Loc) (ls : Array Slot), lv_has ls 3 [(0, gR E 32), (1, .int a1), (2, .int a2)] → GX E S H locs → fX8_takeSign_115 S a1 a2 = some res → W p l e rmX8_takeSign s m args below meth c H locs 0 0 (gZ E below args s none res.2) (F0 m 115 ls []) := by
  obtain ⟨hx, hb, -, -, -, hown, hts, -, -⟩ := id hc
  intro S a1 a2 H locs ls hl hG h
  unfold fX8_takeSign_115 at h
  refine lv_iload_n hx hb dX8_takeSign_115 rfl (lv_at hl 1 rfl) ?_
  refine lv_bipush (v := (62 : Int32)) hx hb dX8_takeSign_116 (by decide) ?_
  refine lv_icmp_ne (tgt := 143) hx hb dX8_takeSign_118 (by decide) (fun c1 => ?_) (fun c1 => ?_)
  · have h := g_neg c1 h
    exact g_vret hc hG dX8_takeSign_143 h
  · have h := g_pos c1 h
    refine lv_iload_n hx hb dX8_takeSign_121 rfl (lv_at hl 2 rfl) ?_
    refine lv_bipush (v := (61 : Int32)) hx hb dX8_takeSign_122 (by decide) ?_
    refine lv_icmp_ne (tgt := 143) hx hb dX8_takeSign_124 (by decide) (fun c2 => ?_) (fun c2 => ?_)
    · have h := g_neg c2 h
      exact g_vret hc hG dX8_takeSign_143 h
    · have h := g_pos c2 h
      refine lv_aload_n hx hb dX8_takeSign_127 rfl (lv_at hl 0 rfl) ?_
      refine lv_bipush (v := (11 : Int32)) hx hb dX8_takeSign_128 (by decide) ?_
      refine g_putI hc hG 32 fpX8_34 rfl rfl rfl rfl dX8_takeSign_130 (fun S3 H locs eS3 hG => ?_)
      have h := g_let eS3 h
      refine lv_aload_n hx hb dX8_takeSign_133 rfl (lv_at hl 0 rfl) ?_
      refine lv_dup hx hb dX8_takeSign_134 rfl ?_
      refine g_getI hc hG 32 flX8_25 rfl rfl dX8_takeSign_135 ?_
      refine lv_iconst (v := (1 : Int32)) hx hb dX8_takeSign_138 (by decide) ?_
      refine lv_iadd hx hb dX8_takeSign_139 ?_
      refine g_putI hc hG 32 fpX8_25 rfl rfl rfl rfl dX8_takeSign_140 (fun S4 H locs eS4 hG => ?_)
      have h := g_let eS4 h
      exact g_vret hc hG dX8_takeSign_143 h
def fX8_takeSign_84 (S : GS) (a1 : Int32) (a2 : Int32) : Option (Unit × GS) := (if a1 = (60 : Int32) then (if a2 = (62 : Int32) then glet (gsi S 32 3 (10 : Int32)) fun S3 => glet (gsi S3 32 2 ((S3.1 32 2) + (1 : Int32))) fun S4 => (some ((), S4)) else (fX8_takeSign_115 S a1 a2)) else (fX8_takeSign_115 S a1 a2))
set_option maxRecDepth 100000 in
set_option maxHeartbeats 4000000 in
theorem wX8_takeSign_84 {p : Program} {l : Launch} {e : Env} {s : State} {m : MethodId} {args : Array Value} {below : List Frame} {meth : Method} {c : Code} {E : GE} {res : (Unit × GS)} (hc : GM E p s m args meth c RX8 cX8_takeSign 3 none) : ∀ (S : GS) (a1 : Int32) (a2 : Int32) (H : Heap) (locs : List Loc) (ls : Array Slot), lv_has ls 3 [(0, gR E 32), (1, .int a1), (2, .int a2)] → GX E S H locs → fX8_takeSign_84 S a1 a2 = some res → W p l e rmX8_takeSign s m args below meth c H locs 0 0 (gZ E below args s none res.2) (F0 m 84 ls []) := by
  obtain ⟨hx, hb, -, -, -, hown, hts, -, -⟩ := id hc
  intro S a1 a2 H locs ls hl hG h
  unfold fX8_takeSign_84 at h
  refine lv_iload_n hx hb dX8_takeSign_84 rfl (lv_at hl 1 rfl) ?_
  refine lv_bipush (v := (60 : Int32)) hx hb dX8_takeSign_85 (by decide) ?_
  refine lv_icmp_ne (tgt := 115) hx hb dX8_takeSign_87 (by decide) (fun c1 => ?_) (fun c1 => ?_)
  · have h := g_neg c1 h
    exact wX8_takeSign_115 hc S a1 a2 _ _ _ (lv_sub hl [0, 1, 2] rfl) hG h
  · have h := g_pos c1 h
    refine lv_iload_n hx hb dX8_takeSign_90 rfl (lv_at hl 2 rfl) ?_
    refine lv_bipush (v := (62 : Int32)) hx hb dX8_takeSign_91 (by decide) ?_
    refine lv_icmp_ne (tgt := 115) hx hb dX8_takeSign_93 (by decide) (fun c2 => ?_) (fun c2 => ?_)
    · have h := g_neg c2 h
      exact wX8_takeSign_115 hc S a1 a2 _ _ _ (lv_sub hl [0, 1, 2] rfl) hG h
    · have h := g_pos c2 h
      refine lv_aload_n hx hb dX8_takeSign_96 rfl (lv_at hl 0 rfl) ?_
      refine lv_bipush (v := (10 : Int32)) hx hb dX8_takeSign_97 (by decide) ?_
      refine g_putI hc hG 32 fpX8_34 rfl rfl rfl rfl dX8_takeSign_99 (fun S3 H locs eS3 hG => ?_)
      have h := g_let eS3 h
      refine lv_aload_n hx hb dX8_takeSign_102 rfl (lv_at hl 0 rfl) ?_
      refine lv_dup hx hb dX8_takeSign_103 rfl ?_
      refine g_getI hc hG 32 flX8_25 rfl rfl dX8_takeSign_104 ?_
      refine lv_iconst (v := (1 : Int32)) hx hb dX8_takeSign_107 (by decide) ?_
      refine lv_iadd hx hb dX8_takeSign_108 ?_
      refine g_putI hc hG 32 fpX8_25 rfl rfl rfl rfl dX8_takeSign_109 (fun S4 H locs eS4 hG => ?_)
      have h := g_let eS4 h
      refine lv_goto (tgt := 143) hx hb dX8_takeSign_112 (by decide) ?_
      exact g_vret hc hG dX8_takeSign_143 h
def fX8_takeSign_52 (S : GS) (t0 : Int32) (a1 : Int32) : Option (Unit × GS) := (if a1 = (60 : Int32) then (if t0 = (61 : Int32) then glet (gsi S 32 3 (8 : Int32)) fun S3 => glet (gsi S3 32 2 ((S3.1 32 2) + (1 : Int32))) fun S4 => (some ((), S4)) else (fX8_takeSign_84 S a1 t0)) else (fX8_takeSign_84 S a1 t0))
set_option maxRecDepth 100000 in
set_option maxHeartbeats 4000000 in
theorem wX8_takeSign_52 {p : Program} {l : Launch} {e : Env} {s : State} {m : MethodId} {args : Array Value} {below : List Frame} {meth : Method} {c : Code} {E : GE} {res : (Unit × GS)} (hc : GM E p s m args meth c RX8 cX8_takeSign 3 none) : ∀ (S : GS) (t0 : Int32) (a1 : Int32) (H : Heap) (locs : List Loc) (ls : Array Slot), lv_has ls 3 [(0, gR E 32), (1, .int a1)] → GX E S H locs → fX8_takeSign_52 S t0 a1 = some res → W p l e rmX8_takeSign s m args below meth c H locs 0 0 (gZ E below args s none res.2) (F0 m 52 ls [.int t0]) := by
  obtain ⟨hx, hb, -, -, -, hown, hts, -, -⟩ := id hc
  intro S t0 a1 H locs ls hl hG h
  unfold fX8_takeSign_52 at h
  refine lv_istore_n (lv' := [(2, .int t0), (0, gR E 32), (1, .int a1)]) hx hb dX8_takeSign_52 rfl hl (by decide) rfl (fun ls hl => ?_)
  refine lv_iload_n hx hb dX8_takeSign_53 rfl (lv_at hl 2 rfl) ?_
  refine lv_bipush (v := (60 : Int32)) hx hb dX8_takeSign_54 (by decide) ?_
  refine lv_icmp_ne (tgt := 84) hx hb dX8_takeSign_56 (by decide) (fun c1 => ?_) (fun c1 => ?_)
  · have h := g_neg c1 h
    exact wX8_takeSign_84 hc S a1 t0 _ _ _ (lv_sub hl [1, 2, 0] rfl) hG h
  · have h := g_pos c1 h
    refine lv_iload_n hx hb dX8_takeSign_59 rfl (lv_at hl 0 rfl) ?_
    refine lv_bipush (v := (61 : Int32)) hx hb dX8_takeSign_60 (by decide) ?_
    refine lv_icmp_ne (tgt := 84) hx hb dX8_takeSign_62 (by decide) (fun c2 => ?_) (fun c2 => ?_)
    · have h := g_neg c2 h
      exact wX8_takeSign_84 hc S a1 t0 _ _ _ (lv_sub hl [1, 2, 0] rfl) hG h
    · have h := g_pos c2 h
      refine lv_aload_n hx hb dX8_takeSign_65 rfl (lv_at hl 1 rfl) ?_
      refine lv_bipush (v := (8 : Int32)) hx hb dX8_takeSign_66 (by decide) ?_
      refine g_putI hc hG 32 fpX8_34 rfl rfl rfl rfl dX8_takeSign_68 (fun S3 H locs eS3 hG => ?_)
      have h := g_let eS3 h
      refine lv_aload_n hx hb dX8_takeSign_71 rfl (lv_at hl 1 rfl) ?_
      refine lv_dup hx hb dX8_takeSign_72 rfl ?_
      refine g_getI hc hG 32 flX8_25 rfl rfl dX8_takeSign_73 ?_
      refine lv_iconst (v := (1 : Int32)) hx hb dX8_takeSign_76 (by decide) ?_
      refine lv_iadd hx hb dX8_takeSign_77 ?_
      refine g_putI hc hG 32 fpX8_25 rfl rfl rfl rfl dX8_takeSign_78 (fun S4 H locs eS4 hG => ?_)
      have h := g_let eS4 h
      refine lv_goto (tgt := 143) hx hb dX8_takeSign_81 (by decide) ?_
      exact g_vret hc hG dX8_takeSign_143 h
def fX8_takeSign (S : GS) : Option (Unit × GS) := (if gk (S.2.2 4) = 13 then (if gib (S.1 32 2) (gn (S.2.2 4)) = true then glet (S.1 (S.2.2 4) ((S.1 32 2)).toNatClampNeg) fun v3 => glet (gsi S 32 2 ((S.1 32 2) + (1 : Int32))) fun S4 => gbv (fX8_signOf S4 v3) fun r6 => glet (gsi S4 32 3 r6) fun S7 => (if (S7.1 32 1) ≤ (S7.1 32 2) then (fX8_takeSign_52 S7 (-1 : Int32) v3) else (if gk (S7.2.2 4) = 13 then (if gib (S7.1 32 2) (gn (S7.2.2 4)) = true then (fX8_takeSign_52 S7 (S7.1 (S7.2.2 4) ((S7.1 32 2)).toNatClampNeg) v3) else none) else none)) else none) else none)
set_option maxRecDepth 100000 in
set_option maxHeartbeats 4000000 in
theorem wX8_takeSign_0 {p : Program} {l : Launch} {e : Env} {s : State} {m : MethodId} {args : Array Value} {below : List Frame} {meth : Method} {c : Code} {E : GE} {res : (Unit × GS)} (hc : GM E p s m args meth c RX8 cX8_takeSign 3 none) : ∀ (S : GS) (H : Heap) (locs : List Loc) (ls : Array Slot), lv_has ls 3 [(0, gR E 32)] → GX E S H locs → fX8_takeSign S = some res → W p l e rmX8_takeSign s m args below meth c H locs 0 0 (gZ E below args s none res.2) (F0 m 0 ls []) := by
  obtain ⟨hx, hb, -, -, -, hown, hts, -, -⟩ := id hc
  intro S H locs ls hl hG h
  unfold fX8_takeSign at h
  refine lv_aload_n hx hb dX8_takeSign_0 rfl (lv_at hl 0 rfl) ?_
  refine g_getR hc hG 32 (S.2.2 4) flX8_9 rfl rfl rfl dX8_takeSign_1 ?_
  refine lv_aload_n hx hb dX8_takeSign_4 rfl (lv_at hl 0 rfl) ?_
  refine g_getI hc hG 32 flX8_25 rfl rfl dX8_takeSign_5 ?_
  obtain ⟨hk1, h⟩ := g_if h
  obtain ⟨hi2, h⟩ := g_if h
  refine g_bald hc hG (S.2.2 4) (gn (S.2.2 4)) (((S.1 32 2)).toNatClampNeg) hk1 rfl hi2 rfl dX8_takeSign_8 ?_
  refine lv_topi (fun v3 ev3 => ?_)
  have h := g_let ev3 h
  refine lv_istore_n (lv' := [(1, .int v3), (0, gR E 32)]) hx hb dX8_takeSign_9 rfl hl (by decide) rfl (fun ls hl => ?_)
  refine lv_aload_n hx hb dX8_takeSign_10 rfl (lv_at hl 1 rfl) ?_
  refine lv_dup hx hb dX8_takeSign_11 rfl ?_
  refine g_getI hc hG 32 flX8_25 rfl rfl dX8_takeSign_12 ?_
  refine lv_iconst (v := (1 : Int32)) hx hb dX8_takeSign_15 (by decide) ?_
  refine lv_iadd hx hb dX8_takeSign_16 ?_
  refine g_putI hc hG 32 fpX8_25 rfl rfl rfl rfl dX8_takeSign_17 (fun S4 H locs eS4 hG => ?_)
  have h := g_let eS4 h
  refine lv_aload_n hx hb dX8_takeSign_20 rfl (lv_at hl 1 rfl) ?_
  refine lv_iload_n hx hb dX8_takeSign_21 rfl (lv_at hl 0 rfl) ?_
  obtain ⟨r6, hm5, h⟩ := g_bv h
  refine g_callSi (As := [.int v3]) hc hG (mX8_signOf l E hm5) mlX8_66 mcX8_signOf msX8_signOf rfl hl.1 rfl rfl ⟨by decide, by decide⟩ (Nat.le_of_ble_eq_true rfl) ⟨by decide, by decide⟩ dX8_takeSign_22 rfl (fun H locs hG => ?_)
  refine g_putI hc hG 32 fpX8_34 rfl rfl rfl rfl dX8_takeSign_25 (fun S7 H locs eS7 hG => ?_)
  have h := g_let eS7 h
  refine lv_aload_n hx hb dX8_takeSign_28 rfl (lv_at hl 1 rfl) ?_
  refine g_getI hc hG 32 flX8_25 rfl rfl dX8_takeSign_29 ?_
  refine lv_aload_n hx hb dX8_takeSign_32 rfl (lv_at hl 1 rfl) ?_
  refine g_getI hc hG 32 flX8_21 rfl rfl dX8_takeSign_33 ?_
  refine lv_icmp_ge (tgt := 51) hx hb dX8_takeSign_36 (by decide) (fun c8 => ?_) (fun c8 => ?_)
  · have h := g_pos c8 h
    refine lv_iconst (v := (-1 : Int32)) hx hb dX8_takeSign_51 (by decide) ?_
    exact wX8_takeSign_52 hc S7 (-1 : Int32) v3 _ _ _ (lv_sub hl [1, 0] rfl) hG h
  · have h := g_neg c8 h
    refine lv_aload_n hx hb dX8_takeSign_39 rfl (lv_at hl 1 rfl) ?_
    refine g_getR hc hG 32 (S7.2.2 4) flX8_9 rfl rfl rfl dX8_takeSign_40 ?_
    refine lv_aload_n hx hb dX8_takeSign_43 rfl (lv_at hl 1 rfl) ?_
    refine g_getI hc hG 32 flX8_25 rfl rfl dX8_takeSign_44 ?_
    obtain ⟨hk9, h⟩ := g_if h
    obtain ⟨hi10, h⟩ := g_if h
    refine g_bald hc hG (S7.2.2 4) (gn (S7.2.2 4)) (((S7.1 32 2)).toNatClampNeg) hk9 rfl hi10 rfl dX8_takeSign_47 ?_
    refine lv_goto (tgt := 52) hx hb dX8_takeSign_48 (by decide) ?_
    exact wX8_takeSign_52 hc S7 (S7.1 (S7.2.2 4) ((S7.1 32 2)).toNatClampNeg) v3 _ _ _ (lv_sub hl [1, 0] rfl) hG h
theorem mX8_takeSign (l : Launch) (E : GE) {S : GS} {res : (Unit × GS)} (h : fX8_takeSign S = some res) : gMet l E yX8_takeSign cX8_takeSign 3 none rmX8_takeSign [gR E 32] S none res.2 :=
  g_met (by decide) (Nat.le_of_ble_eq_true rfl) rfl fun p e s m below meth c H ls hc hG hl => wX8_takeSign_0 hc S H [] ls hl hG h
abbrev rmX8_advance : Room := { frames := 6, cells := 0, slots := 0, locals := 128 }
def fX8_advance_39 (k0 : GS → Option (Unit × GS)) (S : GS) : Option (Unit × GS) := glet (gsi S 32 2 ((S.1 32 2) + (1 : Int32))) fun S1 => (k0 S1)
set_option maxRecDepth 100000 in
set_option maxHeartbeats 4000000 in
theorem wX8_advance_39 {p : Program} {l : Launch} {e : Env} {s : State} {m : MethodId} {args : Array Value} {below : List Frame} {meth : Method} {c : Code} {E : GE} {res : (Unit × GS)} {k0 : GS → Option (Unit × GS)} (hc : GM E p s m args meth c RX8 cX8_advance 1 none) (hk0 : ∀ (S : GS) (H : Heap) (locs : List Loc) (ls : Array Slot), lv_has ls 1 [(0, gR E 32)] → GX E S H locs → k0 S = some res → W p l e rmX8_advance s m args below meth c H locs 0 0 (gZ E below args s none res.2) (F0 m 0 ls [])) : ∀ (S : GS) (H : Heap) (locs : List Loc) (ls : Array Slot), lv_has ls 1 [(0, gR E 32)] → GX E S H locs → fX8_advance_39 k0 S = some res → W p l e rmX8_advance s m args below meth c H locs 0 0 (gZ E below args s none res.2) (F0 m 39 ls []) := by
  obtain ⟨hx, hb, -, -, -, hown, hts, -, -⟩ := id hc
  intro S H locs ls hl hG h
  unfold fX8_advance_39 at h
  refine lv_aload_n hx hb dX8_advance_39 rfl (lv_at hl 0 rfl) ?_
  refine lv_dup hx hb dX8_advance_40 rfl ?_
  refine g_getI hc hG 32 flX8_25 rfl rfl dX8_advance_41 ?_
  refine lv_iconst (v := (1 : Int32)) hx hb dX8_advance_44 (by decide) ?_
  refine lv_iadd hx hb dX8_advance_45 ?_
  refine g_putI hc hG 32 fpX8_25 rfl rfl rfl rfl dX8_advance_46 (fun S1 H locs eS1 hG => ?_)
  have h := g_let eS1 h
  refine lv_goto (tgt := 0) hx hb dX8_advance_49 (by decide) ?_
  exact hk0 S1 _ _ _ (lv_sub hl [0] rfl) hG h
def fX8_advance_149 (S : GS) : Option (Unit × GS) := gbd (fX8_takeSign S) fun r2 S3 => (some ((), S3))
set_option maxRecDepth 100000 in
set_option maxHeartbeats 4000000 in
theorem wX8_advance_149 {p : Program} {l : Launch} {e : Env} {s : State} {m : MethodId} {args : Array Value} {below : List Frame} {meth : Method} {c : Code} {E : GE} {res : (Unit × GS)} (hc : GM E p s m args meth c RX8 cX8_advance 1 none) : ∀ (S : GS) (H : Heap) (locs : List Loc) (ls : Array Slot), lv_has ls 1 [(0, gR E 32)] → GX E S H locs → fX8_advance_149 S = some res → W p l e rmX8_advance s m args below meth c H locs 0 0 (gZ E below args s none res.2) (F0 m 149 ls []) := by
  obtain ⟨hx, hb, -, -, -, hown, hts, -, -⟩ := id hc
  intro S H locs ls hl hG h
  unfold fX8_advance_149 at h
  refine lv_aload_n hx hb dX8_advance_149 rfl (lv_at hl 0 rfl) ?_
  obtain ⟨r2, S3, hm1, h⟩ := g_bd h
  refine g_callVv (As := []) hc hG (mX8_takeSign l E hm1) mlX8_43 mcX8_takeSign miX8_takeSign rfl rfl rfl rfl hl.1 rfl rfl ⟨by decide, by decide⟩ (Nat.le_of_ble_eq_true rfl) ⟨by decide, by decide⟩ dX8_advance_150 rfl (fun H locs hG => ?_)
  exact g_vret hc hG dX8_advance_153 h
def fX8_advance_114 (S : GS) : Option (Unit × GS) := (if gk (S.2.2 4) = 13 then (if gib (S.1 32 2) (gn (S.2.2 4)) = true then (if (S.1 (S.2.2 4) ((S.1 32 2)).toNatClampNeg) < (48 : Int32) then (fX8_advance_149 S) else (if (57 : Int32) < (S.1 (S.2.2 4) ((S.1 32 2)).toNatClampNeg) then (fX8_advance_149 S) else gbd (fX8_takeNumber S) fun r6 S7 => (some ((), S7)))) else none) else none)
set_option maxRecDepth 100000 in
set_option maxHeartbeats 4000000 in
theorem wX8_advance_114 {p : Program} {l : Launch} {e : Env} {s : State} {m : MethodId} {args : Array Value} {below : List Frame} {meth : Method} {c : Code} {E : GE} {res : (Unit × GS)} (hc : GM E p s m args meth c RX8 cX8_advance 1 none) : ∀ (S : GS) (H : Heap) (locs : List Loc) (ls : Array Slot), lv_has ls 1 [(0, gR E 32)] → GX E S H locs → fX8_advance_114 S = some res → W p l e rmX8_advance s m args below meth c H locs 0 0 (gZ E below args s none res.2) (F0 m 114 ls []) := by
  obtain ⟨hx, hb, -, -, -, hown, hts, -, -⟩ := id hc
  intro S H locs ls hl hG h
  unfold fX8_advance_114 at h
  refine lv_aload_n hx hb dX8_advance_114 rfl (lv_at hl 0 rfl) ?_
  refine g_getR hc hG 32 (S.2.2 4) flX8_9 rfl rfl rfl dX8_advance_115 ?_
  refine lv_aload_n hx hb dX8_advance_118 rfl (lv_at hl 0 rfl) ?_
  refine g_getI hc hG 32 flX8_25 rfl rfl dX8_advance_119 ?_
  obtain ⟨hk1, h⟩ := g_if h
  obtain ⟨hi2, h⟩ := g_if h
  refine g_bald hc hG (S.2.2 4) (gn (S.2.2 4)) (((S.1 32 2)).toNatClampNeg) hk1 rfl hi2 rfl dX8_advance_122 ?_
  refine lv_bipush (v := (48 : Int32)) hx hb dX8_advance_123 (by decide) ?_
  refine lv_icmp_lt (tgt := 149) hx hb dX8_advance_125 (by decide) (fun c3 => ?_) (fun c3 => ?_)
  · have h := g_pos c3 h
    exact wX8_advance_149 hc S _ _ _ (lv_sub hl [0] rfl) hG h
  · have h := g_neg c3 h
    refine lv_aload_n hx hb dX8_advance_128 rfl (lv_at hl 0 rfl) ?_
    refine g_getR hc hG 32 (S.2.2 4) flX8_9 rfl rfl rfl dX8_advance_129 ?_
    refine lv_aload_n hx hb dX8_advance_132 rfl (lv_at hl 0 rfl) ?_
    refine g_getI hc hG 32 flX8_25 rfl rfl dX8_advance_133 ?_
    refine g_bald hc hG (S.2.2 4) (gn (S.2.2 4)) (((S.1 32 2)).toNatClampNeg) hk1 rfl hi2 rfl dX8_advance_136 ?_
    refine lv_bipush (v := (57 : Int32)) hx hb dX8_advance_137 (by decide) ?_
    refine lv_icmp_gt (tgt := 149) hx hb dX8_advance_139 (by decide) (fun c4 => ?_) (fun c4 => ?_)
    · have h := g_pos c4 h
      exact wX8_advance_149 hc S _ _ _ (lv_sub hl [0] rfl) hG h
    · have h := g_neg c4 h
      refine lv_aload_n hx hb dX8_advance_142 rfl (lv_at hl 0 rfl) ?_
      obtain ⟨r6, S7, hm5, h⟩ := g_bd h
      refine g_callVv (As := []) hc hG (mX8_takeNumber l E hm5) mlX8_40 mcX8_takeNumber miX8_takeNumber rfl rfl rfl rfl hl.1 rfl rfl ⟨by decide, by decide⟩ (Nat.le_of_ble_eq_true rfl) ⟨by decide, by decide⟩ dX8_advance_143 rfl (fun H locs hG => ?_)
      refine lv_goto (tgt := 153) hx hb dX8_advance_146 (by decide) ?_
      exact g_vret hc hG dX8_advance_153 h
def fX8_advance_52 (S : GS) : Option (Unit × GS) := glet (gsi S 32 4 (S.1 32 2)) fun S1 => (if (S1.1 32 2) < (S1.1 32 1) then (if gk (S1.2.2 4) = 13 then (if gib (S1.1 32 2) (gn (S1.2.2 4)) = true then (if (S1.1 (S1.2.2 4) ((S1.1 32 2)).toNatClampNeg) < (97 : Int32) then (fX8_advance_114 S1) else (if (122 : Int32) < (S1.1 (S1.2.2 4) ((S1.1 32 2)).toNatClampNeg) then (fX8_advance_114 S1) else gbd (fX8_takeWord S1) fun r8 S9 => (some ((), S9)))) else none) else none) else glet (gsi S1 32 3 (1 : Int32)) fun S10 => (some ((), S10)))
set_option maxRecDepth 100000 in
set_option maxHeartbeats 4000000 in
theorem wX8_advance_52 {p : Program} {l : Launch} {e : Env} {s : State} {m : MethodId} {args : Array Value} {below : List Frame} {meth : Method} {c : Code} {E : GE} {res : (Unit × GS)} (hc : GM E p s m args meth c RX8 cX8_advance 1 none) : ∀ (S : GS) (H : Heap) (locs : List Loc) (ls : Array Slot), lv_has ls 1 [(0, gR E 32)] → GX E S H locs → fX8_advance_52 S = some res → W p l e rmX8_advance s m args below meth c H locs 0 0 (gZ E below args s none res.2) (F0 m 52 ls []) := by
  obtain ⟨hx, hb, -, -, -, hown, hts, -, -⟩ := id hc
  intro S H locs ls hl hG h
  unfold fX8_advance_52 at h
  refine lv_aload_n hx hb dX8_advance_52 rfl (lv_at hl 0 rfl) ?_
  refine lv_aload_n hx hb dX8_advance_53 rfl (lv_at hl 0 rfl) ?_
  refine g_getI hc hG 32 flX8_25 rfl rfl dX8_advance_54 ?_
  refine g_putI hc hG 32 fpX8_31 rfl rfl rfl rfl dX8_advance_57 (fun S1 H locs eS1 hG => ?_)
  have h := g_let eS1 h
  refine lv_aload_n hx hb dX8_advance_60 rfl (lv_at hl 0 rfl) ?_
  refine g_getI hc hG 32 flX8_25 rfl rfl dX8_advance_61 ?_
  refine lv_aload_n hx hb dX8_advance_64 rfl (lv_at hl 0 rfl) ?_
  refine g_getI hc hG 32 flX8_21 rfl rfl dX8_advance_65 ?_
  refine lv_icmp_lt (tgt := 79) hx hb dX8_advance_68 (by decide) (fun c2 => ?_) (fun c2 => ?_)
  · have h := g_pos c2 h
    refine lv_aload_n hx hb dX8_advance_79 rfl (lv_at hl 0 rfl) ?_
    refine g_getR hc hG 32 (S1.2.2 4) flX8_9 rfl rfl rfl dX8_advance_80 ?_
    refine lv_aload_n hx hb dX8_advance_83 rfl (lv_at hl 0 rfl) ?_
    refine g_getI hc hG 32 flX8_25 rfl rfl dX8_advance_84 ?_
    obtain ⟨hk3, h⟩ := g_if h
    obtain ⟨hi4, h⟩ := g_if h
    refine g_bald hc hG (S1.2.2 4) (gn (S1.2.2 4)) (((S1.1 32 2)).toNatClampNeg) hk3 rfl hi4 rfl dX8_advance_87 ?_
    refine lv_bipush (v := (97 : Int32)) hx hb dX8_advance_88 (by decide) ?_
    refine lv_icmp_lt (tgt := 114) hx hb dX8_advance_90 (by decide) (fun c5 => ?_) (fun c5 => ?_)
    · have h := g_pos c5 h
      exact wX8_advance_114 hc S1 _ _ _ (lv_sub hl [0] rfl) hG h
    · have h := g_neg c5 h
      refine lv_aload_n hx hb dX8_advance_93 rfl (lv_at hl 0 rfl) ?_
      refine g_getR hc hG 32 (S1.2.2 4) flX8_9 rfl rfl rfl dX8_advance_94 ?_
      refine lv_aload_n hx hb dX8_advance_97 rfl (lv_at hl 0 rfl) ?_
      refine g_getI hc hG 32 flX8_25 rfl rfl dX8_advance_98 ?_
      refine g_bald hc hG (S1.2.2 4) (gn (S1.2.2 4)) (((S1.1 32 2)).toNatClampNeg) hk3 rfl hi4 rfl dX8_advance_101 ?_
      refine lv_bipush (v := (122 : Int32)) hx hb dX8_advance_102 (by decide) ?_
      refine lv_icmp_gt (tgt := 114) hx hb dX8_advance_104 (by decide) (fun c6 => ?_) (fun c6 => ?_)
      · have h := g_pos c6 h
        exact wX8_advance_114 hc S1 _ _ _ (lv_sub hl [0] rfl) hG h
      · have h := g_neg c6 h
        refine lv_aload_n hx hb dX8_advance_107 rfl (lv_at hl 0 rfl) ?_
        obtain ⟨r8, S9, hm7, h⟩ := g_bd h
        refine g_callVv (As := []) hc hG (mX8_takeWord l E hm7) mlX8_37 mcX8_takeWord miX8_takeWord rfl rfl rfl rfl hl.1 rfl rfl ⟨by decide, by decide⟩ (Nat.le_of_ble_eq_true rfl) ⟨by decide, by decide⟩ dX8_advance_108 rfl (fun H locs hG => ?_)
        refine lv_goto (tgt := 153) hx hb dX8_advance_111 (by decide) ?_
        exact g_vret hc hG dX8_advance_153 h
  · have h := g_neg c2 h
    refine lv_aload_n hx hb dX8_advance_71 rfl (lv_at hl 0 rfl) ?_
    refine lv_iconst (v := (1 : Int32)) hx hb dX8_advance_72 (by decide) ?_
    refine g_putI hc hG 32 fpX8_34 rfl rfl rfl rfl dX8_advance_73 (fun S10 H locs eS10 hG => ?_)
    have h := g_let eS10 h
    refine lv_goto (tgt := 153) hx hb dX8_advance_76 (by decide) ?_
    exact g_vret hc hG dX8_advance_153 h
def fX8_advance_0 : Nat → GS → Option (Unit × GS)
  | 0, _ => none
  | n + 1, S => (if (S.1 32 1) ≤ (S.1 32 2) then (fX8_advance_52 S) else (if gk (S.2.2 4) = 13 then (if gib (S.1 32 2) (gn (S.2.2 4)) = true then (if (S.1 (S.2.2 4) ((S.1 32 2)).toNatClampNeg) = (10 : Int32) then (fX8_advance_39 (fX8_advance_0 n) S) else (if (S.1 (S.2.2 4) ((S.1 32 2)).toNatClampNeg) = (32 : Int32) then (fX8_advance_39 (fX8_advance_0 n) S) else (fX8_advance_52 S))) else none) else none))
set_option maxRecDepth 100000 in
set_option maxHeartbeats 4000000 in
theorem wX8_advance_0 {p : Program} {l : Launch} {e : Env} {s : State} {m : MethodId} {args : Array Value} {below : List Frame} {meth : Method} {c : Code} {E : GE} {res : (Unit × GS)} (hc : GM E p s m args meth c RX8 cX8_advance 1 none) : ∀ (n : Nat), ∀ (S : GS) (H : Heap) (locs : List Loc) (ls : Array Slot), lv_has ls 1 [(0, gR E 32)] → GX E S H locs → fX8_advance_0 n S = some res → W p l e rmX8_advance s m args below meth c H locs 0 0 (gZ E below args s none res.2) (F0 m 0 ls []) := by
  obtain ⟨hx, hb, -, -, -, hown, hts, -, -⟩ := id hc
  intro n
  induction n with
  | zero => intro S H locs ls hl hG h; cases h
  | succ n ih =>
    intro S H locs ls hl hG h
    rw [fX8_advance_0] at h
    refine lv_aload_n hx hb dX8_advance_0 rfl (lv_at hl 0 rfl) ?_
    refine g_getI hc hG 32 flX8_25 rfl rfl dX8_advance_1 ?_
    refine lv_aload_n hx hb dX8_advance_4 rfl (lv_at hl 0 rfl) ?_
    refine g_getI hc hG 32 flX8_21 rfl rfl dX8_advance_5 ?_
    refine lv_icmp_ge (tgt := 52) hx hb dX8_advance_8 (by decide) (fun c1 => ?_) (fun c1 => ?_)
    · have h := g_pos c1 h
      exact wX8_advance_52 hc S _ _ _ (lv_sub hl [0] rfl) hG h
    · have h := g_neg c1 h
      refine lv_aload_n hx hb dX8_advance_11 rfl (lv_at hl 0 rfl) ?_
      refine g_getR hc hG 32 (S.2.2 4) flX8_9 rfl rfl rfl dX8_advance_12 ?_
      refine lv_aload_n hx hb dX8_advance_15 rfl (lv_at hl 0 rfl) ?_
      refine g_getI hc hG 32 flX8_25 rfl rfl dX8_advance_16 ?_
      obtain ⟨hk2, h⟩ := g_if h
      obtain ⟨hi3, h⟩ := g_if h
      refine g_bald hc hG (S.2.2 4) (gn (S.2.2 4)) (((S.1 32 2)).toNatClampNeg) hk2 rfl hi3 rfl dX8_advance_19 ?_
      refine lv_bipush (v := (10 : Int32)) hx hb dX8_advance_20 (by decide) ?_
      refine lv_icmp_eq (tgt := 39) hx hb dX8_advance_22 (by decide) (fun c4 => ?_) (fun c4 => ?_)
      · have h := g_pos c4 h
        exact wX8_advance_39 hc ih S _ _ _ (lv_sub hl [0] rfl) hG h
      · have h := g_neg c4 h
        refine lv_aload_n hx hb dX8_advance_25 rfl (lv_at hl 0 rfl) ?_
        refine g_getR hc hG 32 (S.2.2 4) flX8_9 rfl rfl rfl dX8_advance_26 ?_
        refine lv_aload_n hx hb dX8_advance_29 rfl (lv_at hl 0 rfl) ?_
        refine g_getI hc hG 32 flX8_25 rfl rfl dX8_advance_30 ?_
        refine g_bald hc hG (S.2.2 4) (gn (S.2.2 4)) (((S.1 32 2)).toNatClampNeg) hk2 rfl hi3 rfl dX8_advance_33 ?_
        refine lv_bipush (v := (32 : Int32)) hx hb dX8_advance_34 (by decide) ?_
        refine lv_icmp_ne (tgt := 52) hx hb dX8_advance_36 (by decide) (fun c5 => ?_) (fun c5 => ?_)
        · have h := g_neg c5 h
          exact wX8_advance_52 hc S _ _ _ (lv_sub hl [0] rfl) hG h
        · have h := g_pos c5 h
          exact wX8_advance_39 hc ih S _ _ _ (lv_sub hl [0] rfl) hG h
def fX8_advance (S : GS) : Option (Unit × GS) := fX8_advance_0 FU S
theorem mX8_advance (l : Launch) (E : GE) {S : GS} {res : (Unit × GS)} (h : fX8_advance S = some res) : gMet l E yX8_advance cX8_advance 1 none rmX8_advance [gR E 32] S none res.2 :=
  g_met (by decide) (Nat.le_of_ble_eq_true rfl) rfl fun p e s m below meth c H ls hc hG hl => wX8_advance_0 hc FU S H [] ls hl hG h
abbrev rmX8_start : Room := { frames := 7, cells := 0, slots := 0, locals := 148 }
def fX8_start (S : GS) (a2 : Int32) : Option (Unit × GS) := glet (gsq S 4 1) fun S1 => glet (gsi S1 32 1 (if (400 : Int32) < a2 then (400 : Int32) else a2)) fun S2 => glet (gsi S2 32 2 (0 : Int32)) fun S3 => gbd (fX8_advance S3) fun r5 S6 => (some ((), S6))
set_option maxRecDepth 100000 in
set_option maxHeartbeats 4000000 in
theorem wX8_start_0 {p : Program} {l : Launch} {e : Env} {s : State} {m : MethodId} {args : Array Value} {below : List Frame} {meth : Method} {c : Code} {E : GE} {res : (Unit × GS)} (hc : GM E p s m args meth c RX8 cX8_start 3 none) : ∀ (S : GS) (a2 : Int32) (H : Heap) (locs : List Loc) (ls : Array Slot), lv_has ls 3 [(0, gR E 32), (1, gR E 1), (2, .int a2)] → GX E S H locs → fX8_start S a2 = some res → W p l e rmX8_start s m args below meth c H locs 0 0 (gZ E below args s none res.2) (F0 m 0 ls []) := by
  obtain ⟨hx, hb, -, -, -, hown, hts, -, -⟩ := id hc
  intro S a2 H locs ls hl hG h
  unfold fX8_start at h
  refine lv_aload_n hx hb dX8_start_0 rfl (lv_at hl 0 rfl) ?_
  refine lv_aload_n hx hb dX8_start_1 rfl (lv_at hl 1 rfl) ?_
  refine g_putR hc hG 32 4 1 fpX8_9 (fun _ => rfl) (fun _ => rfl) rfl rfl gq4 dX8_start_2 (fun S1 H locs eS1 hG => ?_)
  have h := g_let eS1 h
  refine lv_aload_n hx hb dX8_start_5 rfl (lv_at hl 0 rfl) ?_
  refine lv_iload_n hx hb dX8_start_6 rfl (lv_at hl 2 rfl) ?_
  refine lv_aload_n hx hb dX8_start_7 rfl (lv_at hl 1 rfl) ?_
  refine g_alen hc hG 1 (by decide) (v := (400 : Int32)) (by decide) dX8_start_8 ?_
  refine g_mmin hc hl.1 (mlX8_15) (by decide) (Nat.le_of_ble_eq_true rfl) ⟨by decide, by decide⟩ dX8_start_9 ?_
  refine g_putI hc hG 32 fpX8_21 rfl rfl rfl rfl dX8_start_12 (fun S2 H locs eS2 hG => ?_)
  have h := g_let eS2 h
  refine lv_aload_n hx hb dX8_start_15 rfl (lv_at hl 0 rfl) ?_
  refine lv_iconst (v := (0 : Int32)) hx hb dX8_start_16 (by decide) ?_
  refine g_putI hc hG 32 fpX8_25 rfl rfl rfl rfl dX8_start_17 (fun S3 H locs eS3 hG => ?_)
  have h := g_let eS3 h
  refine lv_aload_n hx hb dX8_start_20 rfl (lv_at hl 0 rfl) ?_
  obtain ⟨r5, S6, hm4, h⟩ := g_bd h
  refine g_callVv (As := []) hc hG (mX8_advance l E hm4) mlX8_28 mcX8_advance miX8_advance rfl rfl rfl rfl hl.1 rfl rfl ⟨by decide, by decide⟩ (Nat.le_of_ble_eq_true rfl) ⟨by decide, by decide⟩ dX8_start_21 rfl (fun H locs hG => ?_)
  exact g_vret hc hG dX8_start_24 h
theorem mX8_start (l : Launch) (E : GE) {S : GS} {a2 : Int32} {res : (Unit × GS)} (h : fX8_start S a2 = some res) : gMet l E yX8_start cX8_start 3 none rmX8_start [gR E 32, gR E 1, .int a2] S none res.2 :=
  g_met (by decide) (Nat.le_of_ble_eq_true rfl) rfl fun p e s m below meth c H ls hc hG hl => wX8_start_0 hc S a2 H [] ls hl hG h
abbrev rmX6_fail : Room := { frames := 0, cells := 0, slots := 0, locals := 0 }
def fX6_fail (S : GS) (a1 : Int32) : Option (Unit × GS) := (if (S.1 31 0) = 0 then glet (gsi S 31 0 a1) fun S2 => glet (gsi S2 31 1 (S2.1 32 4)) fun S3 => (some ((), S3)) else (some ((), S)))
set_option maxRecDepth 100000 in
set_option maxHeartbeats 4000000 in
theorem wX6_fail_0 {p : Program} {l : Launch} {e : Env} {s : State} {m : MethodId} {args : Array Value} {below : List Frame} {meth : Method} {c : Code} {E : GE} {res : (Unit × GS)} (hc : GM E p s m args meth c RX6 cX6_fail 2 none) : ∀ (S : GS) (a1 : Int32) (H : Heap) (locs : List Loc) (ls : Array Slot), lv_has ls 2 [(0, gR E 31), (1, .int a1)] → GX E S H locs → fX6_fail S a1 = some res → W p l e rmX6_fail s m args below meth c H locs 0 0 (gZ E below args s none res.2) (F0 m 0 ls []) := by
  obtain ⟨hx, hb, -, -, -, hown, hts, -, -⟩ := id hc
  intro S a1 H locs ls hl hG h
  unfold fX6_fail at h
  refine lv_aload_n hx hb dX6_fail_0 rfl (lv_at hl 0 rfl) ?_
  refine g_getI hc hG 31 flX6_30 rfl rfl dX6_fail_1 ?_
  refine lv_if_ne (tgt := 23) hx hb dX6_fail_4 (by decide) (fun c1 => ?_) (fun c1 => ?_)
  · have h := g_neg c1 h
    exact g_vret hc hG dX6_fail_23 h
  · have h := g_pos c1 h
    refine lv_aload_n hx hb dX6_fail_7 rfl (lv_at hl 0 rfl) ?_
    refine lv_iload_n hx hb dX6_fail_8 rfl (lv_at hl 1 rfl) ?_
    refine g_putI hc hG 31 fpX6_30 rfl rfl rfl rfl dX6_fail_9 (fun S2 H locs eS2 hG => ?_)
    have h := g_let eS2 h
    refine lv_aload_n hx hb dX6_fail_12 rfl (lv_at hl 0 rfl) ?_
    refine lv_aload_n hx hb dX6_fail_13 rfl (lv_at hl 0 rfl) ?_
    refine g_getR hc hG 31 32 flX6_18 rfl rfl rfl dX6_fail_14 ?_
    refine g_getI hc hG 32 flX6_127 rfl rfl dX6_fail_17 ?_
    refine g_putI hc hG 31 fpX6_9 rfl rfl rfl rfl dX6_fail_20 (fun S3 H locs eS3 hG => ?_)
    have h := g_let eS3 h
    exact g_vret hc hG dX6_fail_23 h
theorem mX6_fail (l : Launch) (E : GE) {S : GS} {a1 : Int32} {res : (Unit × GS)} (h : fX6_fail S a1 = some res) : gMet l E yX6_fail cX6_fail 2 none rmX6_fail [gR E 31, .int a1] S none res.2 :=
  g_met (by decide) (Nat.le_of_ble_eq_true rfl) rfl fun p e s m below meth c H ls hc hG hl => wX6_fail_0 hc S a1 H [] ls hl hG h
abbrev rmX6_readDoubts : Room := { frames := 7, cells := 0, slots := 0, locals := 148 }
def fX6_readDoubts_42 (S : GS) : Option (Unit × GS) := gbd (fX6_fail S (2 : Int32)) fun r2 S3 => (some ((), S3))
set_option maxRecDepth 100000 in
set_option maxHeartbeats 4000000 in
theorem wX6_readDoubts_42 {p : Program} {l : Launch} {e : Env} {s : State} {m : MethodId} {args : Array Value} {below : List Frame} {meth : Method} {c : Code} {E : GE} {res : (Unit × GS)} (hc : GM E p s m args meth c RX6 cX6_readDoubts 1 none) : ∀ (S : GS) (H : Heap) (locs : List Loc) (ls : Array Slot), lv_has ls 1 [(0, gR E 31)] → GX E S H locs → fX6_readDoubts_42 S = some res → W p l e rmX6_readDoubts s m args below meth c H locs 0 0 (gZ E below args s none res.2) (F0 m 42 ls []) := by
  obtain ⟨hx, hb, -, -, -, hown, hts, -, -⟩ := id hc
  intro S H locs ls hl hG h
  unfold fX6_readDoubts_42 at h
  refine lv_aload_n hx hb dX6_readDoubts_42 rfl (lv_at hl 0 rfl) ?_
  refine lv_iconst (v := (2 : Int32)) hx hb dX6_readDoubts_43 (by decide) ?_
  obtain ⟨r2, S3, hm1, h⟩ := g_bd h
  refine g_callVv (As := [.int (2 : Int32)]) hc hG (mX6_fail l E hm1) mlX6_49 mcX6_fail miX6_fail rfl rfl rfl rfl hl.1 rfl rfl ⟨by decide, by decide⟩ (Nat.le_of_ble_eq_true rfl) ⟨by decide, by decide⟩ dX6_readDoubts_44 rfl (fun H locs hG => ?_)
  refine lv_goto (tgt := 79) hx hb dX6_readDoubts_47 (by decide) ?_
  exact g_vret hc hG dX6_readDoubts_79 h
def fX6_readDoubts (S : GS) : Option (Unit × GS) := (if (S.1 32 3) = (3 : Int32) then (if (S.1 32 5) < (1 : Int32) then (fX6_readDoubts_42 S) else (if (S.1 32 5) ≤ (9 : Int32) then (if gk (S.2.2 3) = 7 then glet (gsi S (S.2.2 3) 3 (1 : Int32)) fun S5 => (if gk (S5.2.2 3) = 7 then glet (gsi S5 (S5.2.2 3) 2 (S5.1 32 5)) fun S7 => gbd (fX8_advance S7) fun r9 S10 => (some ((), S10)) else none) else none) else (fX6_readDoubts_42 S))) else gbd (fX6_fail S (1 : Int32)) fun r12 S13 => (some ((), S13)))
set_option maxRecDepth 100000 in
set_option maxHeartbeats 4000000 in
theorem wX6_readDoubts_0 {p : Program} {l : Launch} {e : Env} {s : State} {m : MethodId} {args : Array Value} {below : List Frame} {meth : Method} {c : Code} {E : GE} {res : (Unit × GS)} (hc : GM E p s m args meth c RX6 cX6_readDoubts 1 none) : ∀ (S : GS) (H : Heap) (locs : List Loc) (ls : Array Slot), lv_has ls 1 [(0, gR E 31)] → GX E S H locs → fX6_readDoubts S = some res → W p l e rmX6_readDoubts s m args below meth c H locs 0 0 (gZ E below args s none res.2) (F0 m 0 ls []) := by
  obtain ⟨hx, hb, -, -, -, hown, hts, -, -⟩ := id hc
  intro S H locs ls hl hG h
  unfold fX6_readDoubts at h
  refine lv_aload_n hx hb dX6_readDoubts_0 rfl (lv_at hl 0 rfl) ?_
  refine g_getR hc hG 31 32 flX6_18 rfl rfl rfl dX6_readDoubts_1 ?_
  refine g_getI hc hG 32 flX6_42 rfl rfl dX6_readDoubts_4 ?_
  refine lv_iconst (v := (3 : Int32)) hx hb dX6_readDoubts_7 (by decide) ?_
  refine lv_icmp_eq (tgt := 19) hx hb dX6_readDoubts_8 (by decide) (fun c1 => ?_) (fun c1 => ?_)
  · have h := g_pos c1 h
    refine lv_aload_n hx hb dX6_readDoubts_19 rfl (lv_at hl 0 rfl) ?_
    refine g_getR hc hG 31 32 flX6_18 rfl rfl rfl dX6_readDoubts_20 ?_
    refine g_getI hc hG 32 flX6_81 rfl rfl dX6_readDoubts_23 ?_
    refine lv_iconst (v := (1 : Int32)) hx hb dX6_readDoubts_26 (by decide) ?_
    refine lv_icmp_lt (tgt := 42) hx hb dX6_readDoubts_27 (by decide) (fun c2 => ?_) (fun c2 => ?_)
    · have h := g_pos c2 h
      exact wX6_readDoubts_42 hc S _ _ _ (lv_sub hl [0] rfl) hG h
    · have h := g_neg c2 h
      refine lv_aload_n hx hb dX6_readDoubts_30 rfl (lv_at hl 0 rfl) ?_
      refine g_getR hc hG 31 32 flX6_18 rfl rfl rfl dX6_readDoubts_31 ?_
      refine g_getI hc hG 32 flX6_81 rfl rfl dX6_readDoubts_34 ?_
      refine lv_bipush (v := (9 : Int32)) hx hb dX6_readDoubts_37 (by decide) ?_
      refine lv_icmp_le (tgt := 50) hx hb dX6_readDoubts_39 (by decide) (fun c3 => ?_) (fun c3 => ?_)
      · have h := g_pos c3 h
        refine lv_aload_n hx hb dX6_readDoubts_50 rfl (lv_at hl 0 rfl) ?_
        refine g_getR hc hG 31 (S.2.2 3) flX6_26 rfl rfl rfl dX6_readDoubts_51 ?_
        refine lv_iconst (v := (1 : Int32)) hx hb dX6_readDoubts_54 (by decide) ?_
        obtain ⟨hk4, h⟩ := g_if h
        refine g_putI hc hG (S.2.2 3) fpX6_59 rfl (by decide) hk4 rfl dX6_readDoubts_55 (fun S5 H locs eS5 hG => ?_)
        have h := g_let eS5 h
        refine lv_aload_n hx hb dX6_readDoubts_58 rfl (lv_at hl 0 rfl) ?_
        refine g_getR hc hG 31 (S5.2.2 3) flX6_26 rfl rfl rfl dX6_readDoubts_59 ?_
        refine lv_aload_n hx hb dX6_readDoubts_62 rfl (lv_at hl 0 rfl) ?_
        refine g_getR hc hG 31 32 flX6_18 rfl rfl rfl dX6_readDoubts_63 ?_
        refine g_getI hc hG 32 flX6_81 rfl rfl dX6_readDoubts_66 ?_
        obtain ⟨hk6, h⟩ := g_if h
        refine g_putI hc hG (S5.2.2 3) fpX6_84 rfl rfl hk6 rfl dX6_readDoubts_69 (fun S7 H locs eS7 hG => ?_)
        have h := g_let eS7 h
        refine lv_aload_n hx hb dX6_readDoubts_72 rfl (lv_at hl 0 rfl) ?_
        refine g_getR hc hG 31 32 flX6_18 rfl rfl rfl dX6_readDoubts_73 ?_
        obtain ⟨r9, S10, hm8, h⟩ := g_bd h
        refine g_callVv (As := []) hc hG (mX8_advance l E hm8) mlX6_71 mcX8_advance miX8_advance rfl rfl rfl rfl hl.1 rfl rfl ⟨by decide, by decide⟩ (Nat.le_of_ble_eq_true rfl) ⟨by decide, by decide⟩ dX6_readDoubts_76 rfl (fun H locs hG => ?_)
        exact g_vret hc hG dX6_readDoubts_79 h
      · have h := g_neg c3 h
        exact wX6_readDoubts_42 hc S _ _ _ (lv_sub hl [0] rfl) hG h
  · have h := g_neg c1 h
    refine lv_aload_n hx hb dX6_readDoubts_11 rfl (lv_at hl 0 rfl) ?_
    refine lv_iconst (v := (1 : Int32)) hx hb dX6_readDoubts_12 (by decide) ?_
    obtain ⟨r12, S13, hm11, h⟩ := g_bd h
    refine g_callVv (As := [.int (1 : Int32)]) hc hG (mX6_fail l E hm11) mlX6_49 mcX6_fail miX6_fail rfl rfl rfl rfl hl.1 rfl rfl ⟨by decide, by decide⟩ (Nat.le_of_ble_eq_true rfl) ⟨by decide, by decide⟩ dX6_readDoubts_13 rfl (fun H locs hG => ?_)
    refine lv_goto (tgt := 79) hx hb dX6_readDoubts_16 (by decide) ?_
    exact g_vret hc hG dX6_readDoubts_79 h
theorem mX6_readDoubts (l : Launch) (E : GE) {S : GS} {res : (Unit × GS)} (h : fX6_readDoubts S = some res) : gMet l E yX6_readDoubts cX6_readDoubts 1 none rmX6_readDoubts [gR E 31] S none res.2 :=
  g_met (by decide) (Nat.le_of_ble_eq_true rfl) rfl fun p e s m below meth c H ls hc hG hl => wX6_readDoubts_0 hc S H [] ls hl hG h
abbrev rmX6_strengthOf : Room := { frames := 0, cells := 0, slots := 0, locals := 0 }
def fX6_strengthOf (S : GS) (a0 : Int32) : Option Int32 := (if a0 = (7 : Int32) then (some (4 : Int32)) else (if a0 = (8 : Int32) then (some (4 : Int32)) else (if a0 = (9 : Int32) then (some (4 : Int32)) else (if a0 = (10 : Int32) then (some (4 : Int32)) else (if a0 = (11 : Int32) then (some (4 : Int32)) else (if a0 = (12 : Int32) then (some (4 : Int32)) else (if a0 = (13 : Int32) then (some (5 : Int32)) else (if a0 = (14 : Int32) then (some (5 : Int32)) else (if a0 = (15 : Int32) then (some (6 : Int32)) else (if a0 = (16 : Int32) then (some (6 : Int32)) else (if a0 = (17 : Int32) then (some (3 : Int32)) else (if a0 = (18 : Int32) then (some (2 : Int32)) else (if a0 = (19 : Int32) then (some (1 : Int32)) else (some (0 : Int32)))))))))))))))
set_option maxRecDepth 100000 in
set_option maxHeartbeats 4000000 in
theorem wX6_strengthOf_0 {p : Program} {l : Launch} {e : Env} {s : State} {m : MethodId} {args : Array Value} {below : List Frame} {meth : Method} {c : Code} {E : GE} {res : Int32} (hc : GM E p s m args meth c RX6 cX6_strengthOf 1 (some .int)) : ∀ (S : GS) (a0 : Int32) (H : Heap) (locs : List Loc) (ls : Array Slot), lv_has ls 1 [(0, .int a0)] → GX E S H locs → fX6_strengthOf S a0 = some res → W p l e rmX6_strengthOf s m args below meth c H locs 0 0 (gZ E below args s (some (.int res)) S) (F0 m 0 ls []) := by
  obtain ⟨hx, hb, -, -, -, hown, hts, -, -⟩ := id hc
  intro S a0 H locs ls hl hG h
  unfold fX6_strengthOf at h
  refine lv_iload_n hx hb dX6_strengthOf_0 rfl (lv_at hl 0 rfl) ?_
  by_cases c1 : a0 = (7 : Int32)
  · have h := g_pos c1 h
    refine lv_tableIn (off := 73) (tgt := 74) hx hb dX6_strengthOf_1 (by rw [c1]; decide) (by rw [c1]; decide) (by rw [c1]; decide) (by decide) ?_
    refine lv_iconst (v := (4 : Int32)) hx hb dX6_strengthOf_74 (by decide) ?_
    exact g_iretp hc hG dX6_strengthOf_75 h
  have h := g_neg c1 h
  by_cases c2 : a0 = (8 : Int32)
  · have h := g_pos c2 h
    refine lv_tableIn (off := 73) (tgt := 74) hx hb dX6_strengthOf_1 (by rw [c2]; decide) (by rw [c2]; decide) (by rw [c2]; decide) (by decide) ?_
    refine lv_iconst (v := (4 : Int32)) hx hb dX6_strengthOf_74 (by decide) ?_
    exact g_iretp hc hG dX6_strengthOf_75 h
  have h := g_neg c2 h
  by_cases c3 : a0 = (9 : Int32)
  · have h := g_pos c3 h
    refine lv_tableIn (off := 73) (tgt := 74) hx hb dX6_strengthOf_1 (by rw [c3]; decide) (by rw [c3]; decide) (by rw [c3]; decide) (by decide) ?_
    refine lv_iconst (v := (4 : Int32)) hx hb dX6_strengthOf_74 (by decide) ?_
    exact g_iretp hc hG dX6_strengthOf_75 h
  have h := g_neg c3 h
  by_cases c4 : a0 = (10 : Int32)
  · have h := g_pos c4 h
    refine lv_tableIn (off := 73) (tgt := 74) hx hb dX6_strengthOf_1 (by rw [c4]; decide) (by rw [c4]; decide) (by rw [c4]; decide) (by decide) ?_
    refine lv_iconst (v := (4 : Int32)) hx hb dX6_strengthOf_74 (by decide) ?_
    exact g_iretp hc hG dX6_strengthOf_75 h
  have h := g_neg c4 h
  by_cases c5 : a0 = (11 : Int32)
  · have h := g_pos c5 h
    refine lv_tableIn (off := 73) (tgt := 74) hx hb dX6_strengthOf_1 (by rw [c5]; decide) (by rw [c5]; decide) (by rw [c5]; decide) (by decide) ?_
    refine lv_iconst (v := (4 : Int32)) hx hb dX6_strengthOf_74 (by decide) ?_
    exact g_iretp hc hG dX6_strengthOf_75 h
  have h := g_neg c5 h
  by_cases c6 : a0 = (12 : Int32)
  · have h := g_pos c6 h
    refine lv_tableIn (off := 73) (tgt := 74) hx hb dX6_strengthOf_1 (by rw [c6]; decide) (by rw [c6]; decide) (by rw [c6]; decide) (by decide) ?_
    refine lv_iconst (v := (4 : Int32)) hx hb dX6_strengthOf_74 (by decide) ?_
    exact g_iretp hc hG dX6_strengthOf_75 h
  have h := g_neg c6 h
  by_cases c7 : a0 = (13 : Int32)
  · have h := g_pos c7 h
    refine lv_tableIn (off := 75) (tgt := 76) hx hb dX6_strengthOf_1 (by rw [c7]; decide) (by rw [c7]; decide) (by rw [c7]; decide) (by decide) ?_
    refine lv_iconst (v := (5 : Int32)) hx hb dX6_strengthOf_76 (by decide) ?_
    exact g_iretp hc hG dX6_strengthOf_77 h
  have h := g_neg c7 h
  by_cases c8 : a0 = (14 : Int32)
  · have h := g_pos c8 h
    refine lv_tableIn (off := 75) (tgt := 76) hx hb dX6_strengthOf_1 (by rw [c8]; decide) (by rw [c8]; decide) (by rw [c8]; decide) (by decide) ?_
    refine lv_iconst (v := (5 : Int32)) hx hb dX6_strengthOf_76 (by decide) ?_
    exact g_iretp hc hG dX6_strengthOf_77 h
  have h := g_neg c8 h
  by_cases c9 : a0 = (15 : Int32)
  · have h := g_pos c9 h
    refine lv_tableIn (off := 77) (tgt := 78) hx hb dX6_strengthOf_1 (by rw [c9]; decide) (by rw [c9]; decide) (by rw [c9]; decide) (by decide) ?_
    refine lv_bipush (v := (6 : Int32)) hx hb dX6_strengthOf_78 (by decide) ?_
    exact g_iretp hc hG dX6_strengthOf_80 h
  have h := g_neg c9 h
  by_cases c10 : a0 = (16 : Int32)
  · have h := g_pos c10 h
    refine lv_tableIn (off := 77) (tgt := 78) hx hb dX6_strengthOf_1 (by rw [c10]; decide) (by rw [c10]; decide) (by rw [c10]; decide) (by decide) ?_
    refine lv_bipush (v := (6 : Int32)) hx hb dX6_strengthOf_78 (by decide) ?_
    exact g_iretp hc hG dX6_strengthOf_80 h
  have h := g_neg c10 h
  by_cases c11 : a0 = (17 : Int32)
  · have h := g_pos c11 h
    refine lv_tableIn (off := 71) (tgt := 72) hx hb dX6_strengthOf_1 (by rw [c11]; decide) (by rw [c11]; decide) (by rw [c11]; decide) (by decide) ?_
    refine lv_iconst (v := (3 : Int32)) hx hb dX6_strengthOf_72 (by decide) ?_
    exact g_iretp hc hG dX6_strengthOf_73 h
  have h := g_neg c11 h
  by_cases c12 : a0 = (18 : Int32)
  · have h := g_pos c12 h
    refine lv_tableIn (off := 69) (tgt := 70) hx hb dX6_strengthOf_1 (by rw [c12]; decide) (by rw [c12]; decide) (by rw [c12]; decide) (by decide) ?_
    refine lv_iconst (v := (2 : Int32)) hx hb dX6_strengthOf_70 (by decide) ?_
    exact g_iretp hc hG dX6_strengthOf_71 h
  have h := g_neg c12 h
  by_cases c13 : a0 = (19 : Int32)
  · have h := g_pos c13 h
    refine lv_tableIn (off := 67) (tgt := 68) hx hb dX6_strengthOf_1 (by rw [c13]; decide) (by rw [c13]; decide) (by rw [c13]; decide) (by decide) ?_
    refine lv_iconst (v := (1 : Int32)) hx hb dX6_strengthOf_68 (by decide) ?_
    exact g_iretp hc hG dX6_strengthOf_69 h
  have h := g_neg c13 h
  have zc1 : ¬ Int32.toInt a0 = 7 := fun q => c1 (Int32.toInt_inj.mp (q.trans (by decide)))
  have zc2 : ¬ Int32.toInt a0 = 8 := fun q => c2 (Int32.toInt_inj.mp (q.trans (by decide)))
  have zc3 : ¬ Int32.toInt a0 = 9 := fun q => c3 (Int32.toInt_inj.mp (q.trans (by decide)))
  have zc4 : ¬ Int32.toInt a0 = 10 := fun q => c4 (Int32.toInt_inj.mp (q.trans (by decide)))
  have zc5 : ¬ Int32.toInt a0 = 11 := fun q => c5 (Int32.toInt_inj.mp (q.trans (by decide)))
  have zc6 : ¬ Int32.toInt a0 = 12 := fun q => c6 (Int32.toInt_inj.mp (q.trans (by decide)))
  have zc7 : ¬ Int32.toInt a0 = 13 := fun q => c7 (Int32.toInt_inj.mp (q.trans (by decide)))
  have zc8 : ¬ Int32.toInt a0 = 14 := fun q => c8 (Int32.toInt_inj.mp (q.trans (by decide)))
  have zc9 : ¬ Int32.toInt a0 = 15 := fun q => c9 (Int32.toInt_inj.mp (q.trans (by decide)))
  have zc10 : ¬ Int32.toInt a0 = 16 := fun q => c10 (Int32.toInt_inj.mp (q.trans (by decide)))
  have zc11 : ¬ Int32.toInt a0 = 17 := fun q => c11 (Int32.toInt_inj.mp (q.trans (by decide)))
  have zc12 : ¬ Int32.toInt a0 = 18 := fun q => c12 (Int32.toInt_inj.mp (q.trans (by decide)))
  have zc13 : ¬ Int32.toInt a0 = 19 := fun q => c13 (Int32.toInt_inj.mp (q.trans (by decide)))
  refine lv_tableOut (tgt := 81) hx hb dX6_strengthOf_1 (by omega) (by decide) ?_
  refine lv_iconst (v := (0 : Int32)) hx hb dX6_strengthOf_81 (by decide) ?_
  exact g_iretp hc hG dX6_strengthOf_82 h
theorem mX6_strengthOf (l : Launch) (E : GE) {S : GS} {a0 : Int32} {res : Int32} (h : fX6_strengthOf S a0 = some res) : gMet l E yX6_strengthOf cX6_strengthOf 1 (some .int) rmX6_strengthOf [.int a0] S (some (.int res)) S :=
  g_met (by decide) (Nat.le_of_ble_eq_true rfl) rfl fun p e s m below meth c H ls hc hG hl => wX6_strengthOf_0 hc S a0 H [] ls hl hG h
abbrev rmX6_release : Room := { frames := 1, cells := 0, slots := 0, locals := 21 }
def fX6_release_0 : Nat → GS → Nat → Int32 → Option (Unit × GS)
  | 0, _, _, _ => none
  | n + 1, S, a1, a2 => (if (S.1 31 5) ≤ 0 then (some ((), S)) else (if gib ((S.1 31 5) - (1 : Int32)) 72 = true then (if (S.1 34 (((S.1 31 5) - (1 : Int32))).toNatClampNeg) = (5 : Int32) then (some ((), S)) else gbv (fX6_strengthOf S (S.1 34 (((S.1 31 5) - (1 : Int32))).toNatClampNeg)) fun r5 => (if r5 < a2 then (some ((), S)) else glet (gsi S 31 5 ((S.1 31 5) - (1 : Int32))) fun S7 => (if gib (S7.1 31 5) 72 = true then (if gk a1 = 2 then gbd (fX2_add S7 a1 (-(S7.1 34 ((S7.1 31 5)).toNatClampNeg))) fun r11 S12 => (fX6_release_0 n S12 a1 a2) else none) else none))) else none))
set_option maxRecDepth 100000 in
set_option maxHeartbeats 4000000 in
theorem wX6_release_0 {p : Program} {l : Launch} {e : Env} {s : State} {m : MethodId} {args : Array Value} {below : List Frame} {meth : Method} {c : Code} {E : GE} {res : (Unit × GS)} (hc : GM E p s m args meth c RX6 cX6_release 3 none) : ∀ (n : Nat), ∀ (S : GS) (a1 : Nat) (a2 : Int32) (H : Heap) (locs : List Loc) (ls : Array Slot), lv_has ls 3 [(0, gR E 31), (1, gR E a1), (2, .int a2)] → GX E S H locs → fX6_release_0 n S a1 a2 = some res → W p l e rmX6_release s m args below meth c H locs 0 0 (gZ E below args s none res.2) (F0 m 0 ls []) := by
  obtain ⟨hx, hb, -, -, -, hown, hts, -, -⟩ := id hc
  intro n
  induction n with
  | zero => intro S a1 a2 H locs ls hl hG h; cases h
  | succ n ih =>
    intro S a1 a2 H locs ls hl hG h
    rw [fX6_release_0] at h
    refine lv_aload_n hx hb dX6_release_0 rfl (lv_at hl 0 rfl) ?_
    refine g_getI hc hG 31 flX6_87 rfl rfl dX6_release_1 ?_
    refine lv_if_le (tgt := 67) hx hb dX6_release_4 (by decide) (fun c1 => ?_) (fun c1 => ?_)
    · have h := g_pos c1 h
      exact g_vret hc hG dX6_release_67 h
    · have h := g_neg c1 h
      refine lv_aload_n hx hb dX6_release_7 rfl (lv_at hl 0 rfl) ?_
      refine g_getR hc hG 31 34 flX6_22 rfl rfl rfl dX6_release_8 ?_
      refine lv_aload_n hx hb dX6_release_11 rfl (lv_at hl 0 rfl) ?_
      refine g_getI hc hG 31 flX6_87 rfl rfl dX6_release_12 ?_
      refine lv_iconst (v := (1 : Int32)) hx hb dX6_release_15 (by decide) ?_
      refine lv_isub hx hb dX6_release_16 ?_
      obtain ⟨hi2, h⟩ := g_if h
      refine g_iald hc hG 34 72 ((((S.1 31 5) - (1 : Int32))).toNatClampNeg) rfl rfl hi2 rfl dX6_release_17 ?_
      refine lv_iconst (v := (5 : Int32)) hx hb dX6_release_18 (by decide) ?_
      refine lv_icmp_eq (tgt := 67) hx hb dX6_release_19 (by decide) (fun c3 => ?_) (fun c3 => ?_)
      · have h := g_pos c3 h
        exact g_vret hc hG dX6_release_67 h
      · have h := g_neg c3 h
        refine lv_aload_n hx hb dX6_release_22 rfl (lv_at hl 0 rfl) ?_
        refine g_getR hc hG 31 34 flX6_22 rfl rfl rfl dX6_release_23 ?_
        refine lv_aload_n hx hb dX6_release_26 rfl (lv_at hl 0 rfl) ?_
        refine g_getI hc hG 31 flX6_87 rfl rfl dX6_release_27 ?_
        refine lv_iconst (v := (1 : Int32)) hx hb dX6_release_30 (by decide) ?_
        refine lv_isub hx hb dX6_release_31 ?_
        refine g_iald hc hG 34 72 ((((S.1 31 5) - (1 : Int32))).toNatClampNeg) rfl rfl hi2 rfl dX6_release_32 ?_
        obtain ⟨r5, hm4, h⟩ := g_bv h
        refine g_callSi (As := [.int (S.1 34 (((S.1 31 5) - (1 : Int32))).toNatClampNeg)]) hc hG (mX6_strengthOf l E hm4) mlX6_110 mcX6_strengthOf msX6_strengthOf rfl hl.1 rfl rfl ⟨by decide, by decide⟩ (Nat.le_of_ble_eq_true rfl) ⟨by decide, by decide⟩ dX6_release_33 rfl (fun H locs hG => ?_)
        refine lv_iload_n hx hb dX6_release_36 rfl (lv_at hl 2 rfl) ?_
        refine lv_icmp_lt (tgt := 67) hx hb dX6_release_37 (by decide) (fun c6 => ?_) (fun c6 => ?_)
        · have h := g_pos c6 h
          exact g_vret hc hG dX6_release_67 h
        · have h := g_neg c6 h
          refine lv_aload_n hx hb dX6_release_40 rfl (lv_at hl 0 rfl) ?_
          refine lv_dup hx hb dX6_release_41 rfl ?_
          refine g_getI hc hG 31 flX6_87 rfl rfl dX6_release_42 ?_
          refine lv_iconst (v := (1 : Int32)) hx hb dX6_release_45 (by decide) ?_
          refine lv_isub hx hb dX6_release_46 ?_
          refine g_putI hc hG 31 fpX6_87 rfl rfl rfl rfl dX6_release_47 (fun S7 H locs eS7 hG => ?_)
          have h := g_let eS7 h
          refine lv_aload_n hx hb dX6_release_50 rfl (lv_at hl 1 rfl) ?_
          refine lv_aload_n hx hb dX6_release_51 rfl (lv_at hl 0 rfl) ?_
          refine g_getR hc hG 31 34 flX6_22 rfl rfl rfl dX6_release_52 ?_
          refine lv_aload_n hx hb dX6_release_55 rfl (lv_at hl 0 rfl) ?_
          refine g_getI hc hG 31 flX6_87 rfl rfl dX6_release_56 ?_
          obtain ⟨hi8, h⟩ := g_if h
          refine g_iald hc hG 34 72 (((S7.1 31 5)).toNatClampNeg) rfl rfl hi8 rfl dX6_release_59 ?_
          refine lv_ineg hx hb dX6_release_60 ?_
          obtain ⟨hk9, h⟩ := g_if h
          obtain ⟨r11, S12, hm10, h⟩ := g_bd h
          refine g_callVv (As := [.int (-(S7.1 34 ((S7.1 31 5)).toNatClampNeg))]) hc hG (mX2_add l E hm10) mlX6_121 mcX2_add miX2_add hk9 rfl rfl rfl hl.1 rfl rfl ⟨by decide, by decide⟩ (Nat.le_of_ble_eq_true rfl) ⟨by decide, by decide⟩ dX6_release_61 rfl (fun H locs hG => ?_)
          refine lv_goto (tgt := 0) hx hb dX6_release_64 (by decide) ?_
          exact ih S12 a1 a2 _ _ _ (lv_sub hl [0, 1, 2] rfl) hG h
def fX6_release (S : GS) (a1 : Nat) (a2 : Int32) : Option (Unit × GS) := fX6_release_0 FU S a1 a2
theorem mX6_release (l : Launch) (E : GE) {S : GS} {a1 : Nat} {a2 : Int32} {res : (Unit × GS)} (h : fX6_release S a1 a2 = some res) : gMet l E yX6_release cX6_release 3 none rmX6_release [gR E 31, gR E a1, .int a2] S none res.2 :=
  g_met (by decide) (Nat.le_of_ble_eq_true rfl) rfl fun p e s m below meth c H ls hc hG hl => wX6_release_0 hc FU S a1 a2 H [] ls hl hG h
abbrev rmX6_await : Room := { frames := 0, cells := 0, slots := 0, locals := 0 }
def fX6_await (S : GS) (a1 : Int32) : Option (Unit × GS) := (if (72 : Int32) ≤ (S.1 31 5) then (some ((), S)) else (if gib (S.1 31 5) 72 = true then glet (gsi S 34 (((S.1 31 5)).toNatClampNeg) a1) fun S3 => glet (gsi S3 31 5 ((S3.1 31 5) + (1 : Int32))) fun S4 => (some ((), S4)) else none))
set_option maxRecDepth 100000 in
set_option maxHeartbeats 4000000 in
theorem wX6_await_0 {p : Program} {l : Launch} {e : Env} {s : State} {m : MethodId} {args : Array Value} {below : List Frame} {meth : Method} {c : Code} {E : GE} {res : (Unit × GS)} (hc : GM E p s m args meth c RX6 cX6_await 2 none) : ∀ (S : GS) (a1 : Int32) (H : Heap) (locs : List Loc) (ls : Array Slot), lv_has ls 2 [(0, gR E 31), (1, .int a1)] → GX E S H locs → fX6_await S a1 = some res → W p l e rmX6_await s m args below meth c H locs 0 0 (gZ E below args s none res.2) (F0 m 0 ls []) := by
  obtain ⟨hx, hb, -, -, -, hown, hts, -, -⟩ := id hc
  intro S a1 H locs ls hl hG h
  unfold fX6_await at h
  refine lv_aload_n hx hb dX6_await_0 rfl (lv_at hl 0 rfl) ?_
  refine g_getI hc hG 31 flX6_87 rfl rfl dX6_await_1 ?_
  refine lv_aload_n hx hb dX6_await_4 rfl (lv_at hl 0 rfl) ?_
  refine g_getR hc hG 31 34 flX6_22 rfl rfl rfl dX6_await_5 ?_
  refine g_alen hc hG 34 (by decide) (v := (72 : Int32)) (by decide) dX6_await_8 ?_
  refine lv_icmp_ge (tgt := 32) hx hb dX6_await_9 (by decide) (fun c1 => ?_) (fun c1 => ?_)
  · have h := g_pos c1 h
    exact g_vret hc hG dX6_await_32 h
  · have h := g_neg c1 h
    refine lv_aload_n hx hb dX6_await_12 rfl (lv_at hl 0 rfl) ?_
    refine g_getR hc hG 31 34 flX6_22 rfl rfl rfl dX6_await_13 ?_
    refine lv_aload_n hx hb dX6_await_16 rfl (lv_at hl 0 rfl) ?_
    refine g_getI hc hG 31 flX6_87 rfl rfl dX6_await_17 ?_
    refine lv_iload_n hx hb dX6_await_20 rfl (lv_at hl 1 rfl) ?_
    obtain ⟨hi2, h⟩ := g_if h
    refine g_iast hc hG 34 72 (((S.1 31 5)).toNatClampNeg) rfl rfl hi2 rfl dX6_await_21 (fun S3 H locs eS3 hG => ?_)
    have h := g_let eS3 h
    refine lv_aload_n hx hb dX6_await_22 rfl (lv_at hl 0 rfl) ?_
    refine lv_dup hx hb dX6_await_23 rfl ?_
    refine g_getI hc hG 31 flX6_87 rfl rfl dX6_await_24 ?_
    refine lv_iconst (v := (1 : Int32)) hx hb dX6_await_27 (by decide) ?_
    refine lv_iadd hx hb dX6_await_28 ?_
    refine g_putI hc hG 31 fpX6_87 rfl rfl rfl rfl dX6_await_29 (fun S4 H locs eS4 hG => ?_)
    have h := g_let eS4 h
    exact g_vret hc hG dX6_await_32 h
theorem mX6_await (l : Launch) (E : GE) {S : GS} {a1 : Int32} {res : (Unit × GS)} (h : fX6_await S a1 = some res) : gMet l E yX6_await cX6_await 2 none rmX6_await [gR E 31, .int a1] S none res.2 :=
  g_met (by decide) (Nat.le_of_ble_eq_true rfl) rfl fun p e s m below meth c H ls hc hG hl => wX6_await_0 hc S a1 H [] ls hl hG h
abbrev rmX6_openOne : Room := { frames := 1, cells := 0, slots := 0, locals := 21 }
def fX6_openOne (S : GS) : Option (Unit × GS) := (if (S.1 31 6) < (8 : Int32) then glet (gsi S 31 6 ((S.1 31 6) + (1 : Int32))) fun S2 => gbd (fX6_await S2 (5 : Int32)) fun r4 S5 => (some ((), S5)) else gbd (fX6_fail S (2 : Int32)) fun r7 S8 => (some ((), S8)))
set_option maxRecDepth 100000 in
set_option maxHeartbeats 4000000 in
theorem wX6_openOne_0 {p : Program} {l : Launch} {e : Env} {s : State} {m : MethodId} {args : Array Value} {below : List Frame} {meth : Method} {c : Code} {E : GE} {res : (Unit × GS)} (hc : GM E p s m args meth c RX6 cX6_openOne 1 none) : ∀ (S : GS) (H : Heap) (locs : List Loc) (ls : Array Slot), lv_has ls 1 [(0, gR E 31)] → GX E S H locs → fX6_openOne S = some res → W p l e rmX6_openOne s m args below meth c H locs 0 0 (gZ E below args s none res.2) (F0 m 0 ls []) := by
  obtain ⟨hx, hb, -, -, -, hown, hts, -, -⟩ := id hc
  intro S H locs ls hl hG h
  unfold fX6_openOne at h
  refine lv_aload_n hx hb dX6_openOne_0 rfl (lv_at hl 0 rfl) ?_
  refine g_getI hc hG 31 flX6_90 rfl rfl dX6_openOne_1 ?_
  refine lv_bipush (v := (8 : Int32)) hx hb dX6_openOne_4 (by decide) ?_
  refine lv_icmp_lt (tgt := 15) hx hb dX6_openOne_6 (by decide) (fun c1 => ?_) (fun c1 => ?_)
  · have h := g_pos c1 h
    refine lv_aload_n hx hb dX6_openOne_15 rfl (lv_at hl 0 rfl) ?_
    refine lv_dup hx hb dX6_openOne_16 rfl ?_
    refine g_getI hc hG 31 flX6_90 rfl rfl dX6_openOne_17 ?_
    refine lv_iconst (v := (1 : Int32)) hx hb dX6_openOne_20 (by decide) ?_
    refine lv_iadd hx hb dX6_openOne_21 ?_
    refine g_putI hc hG 31 fpX6_90 rfl rfl rfl rfl dX6_openOne_22 (fun S2 H locs eS2 hG => ?_)
    have h := g_let eS2 h
    refine lv_aload_n hx hb dX6_openOne_25 rfl (lv_at hl 0 rfl) ?_
    refine lv_iconst (v := (5 : Int32)) hx hb dX6_openOne_26 (by decide) ?_
    obtain ⟨r4, S5, hm3, h⟩ := g_bd h
    refine g_callVv (As := [.int (5 : Int32)]) hc hG (mX6_await l E hm3) mlX6_118 mcX6_await miX6_await rfl rfl rfl rfl hl.1 rfl rfl ⟨by decide, by decide⟩ (Nat.le_of_ble_eq_true rfl) ⟨by decide, by decide⟩ dX6_openOne_27 rfl (fun H locs hG => ?_)
    exact g_vret hc hG dX6_openOne_30 h
  · have h := g_neg c1 h
    refine lv_aload_n hx hb dX6_openOne_9 rfl (lv_at hl 0 rfl) ?_
    refine lv_iconst (v := (2 : Int32)) hx hb dX6_openOne_10 (by decide) ?_
    obtain ⟨r7, S8, hm6, h⟩ := g_bd h
    refine g_callVv (As := [.int (2 : Int32)]) hc hG (mX6_fail l E hm6) mlX6_49 mcX6_fail miX6_fail rfl rfl rfl rfl hl.1 rfl rfl ⟨by decide, by decide⟩ (Nat.le_of_ble_eq_true rfl) ⟨by decide, by decide⟩ dX6_openOne_11 rfl (fun H locs hG => ?_)
    exact g_vret hc hG dX6_openOne_14 h
theorem mX6_openOne (l : Launch) (E : GE) {S : GS} {res : (Unit × GS)} (h : fX6_openOne S = some res) : gMet l E yX6_openOne cX6_openOne 1 none rmX6_openOne [gR E 31] S none res.2 :=
  g_met (by decide) (Nat.le_of_ble_eq_true rfl) rfl fun p e s m below meth c H ls hc hG hl => wX6_openOne_0 hc S H [] ls hl hG h
abbrev rmX6_lastWaiting : Room := { frames := 0, cells := 0, slots := 0, locals := 0 }
def fX6_lastWaiting (S : GS) : Option Int32 := (if (S.1 31 5) ≤ 0 then (some (5 : Int32)) else (if gib ((S.1 31 5) - (1 : Int32)) 72 = true then (some (S.1 34 (((S.1 31 5) - (1 : Int32))).toNatClampNeg)) else none))
set_option maxRecDepth 100000 in
set_option maxHeartbeats 4000000 in
theorem wX6_lastWaiting_0 {p : Program} {l : Launch} {e : Env} {s : State} {m : MethodId} {args : Array Value} {below : List Frame} {meth : Method} {c : Code} {E : GE} {res : Int32} (hc : GM E p s m args meth c RX6 cX6_lastWaiting 1 (some .int)) : ∀ (S : GS) (H : Heap) (locs : List Loc) (ls : Array Slot), lv_has ls 1 [(0, gR E 31)] → GX E S H locs → fX6_lastWaiting S = some res → W p l e rmX6_lastWaiting s m args below meth c H locs 0 0 (gZ E below args s (some (.int res)) S) (F0 m 0 ls []) := by
  obtain ⟨hx, hb, -, -, -, hown, hts, -, -⟩ := id hc
  intro S H locs ls hl hG h
  unfold fX6_lastWaiting at h
  refine lv_aload_n hx hb dX6_lastWaiting_0 rfl (lv_at hl 0 rfl) ?_
  refine g_getI hc hG 31 flX6_87 rfl rfl dX6_lastWaiting_1 ?_
  refine lv_if_le (tgt := 21) hx hb dX6_lastWaiting_4 (by decide) (fun c1 => ?_) (fun c1 => ?_)
  · have h := g_pos c1 h
    refine lv_iconst (v := (5 : Int32)) hx hb dX6_lastWaiting_21 (by decide) ?_
    exact g_iretp hc hG dX6_lastWaiting_22 h
  · have h := g_neg c1 h
    refine lv_aload_n hx hb dX6_lastWaiting_7 rfl (lv_at hl 0 rfl) ?_
    refine g_getR hc hG 31 34 flX6_22 rfl rfl rfl dX6_lastWaiting_8 ?_
    refine lv_aload_n hx hb dX6_lastWaiting_11 rfl (lv_at hl 0 rfl) ?_
    refine g_getI hc hG 31 flX6_87 rfl rfl dX6_lastWaiting_12 ?_
    refine lv_iconst (v := (1 : Int32)) hx hb dX6_lastWaiting_15 (by decide) ?_
    refine lv_isub hx hb dX6_lastWaiting_16 ?_
    obtain ⟨hi2, h⟩ := g_if h
    refine g_iald hc hG 34 72 ((((S.1 31 5) - (1 : Int32))).toNatClampNeg) rfl rfl hi2 rfl dX6_lastWaiting_17 ?_
    refine lv_goto (tgt := 22) hx hb dX6_lastWaiting_18 (by decide) ?_
    exact g_iretp hc hG dX6_lastWaiting_22 h
theorem mX6_lastWaiting (l : Launch) (E : GE) {S : GS} {res : Int32} (h : fX6_lastWaiting S = some res) : gMet l E yX6_lastWaiting cX6_lastWaiting 1 (some .int) rmX6_lastWaiting [gR E 31] S (some (.int res)) S :=
  g_met (by decide) (Nat.le_of_ble_eq_true rfl) rfl fun p e s m below meth c H ls hc hG hl => wX6_lastWaiting_0 hc S H [] ls hl hG h
abbrev rmX6_tieKnot : Room := { frames := 1, cells := 0, slots := 0, locals := 21 }
def fX6_tieKnot (S : GS) : Option (Int32 × GS) := (if gk (S.2.2 3) = 7 then (if (S.1 (S.2.2 3) 1) < (64 : Int32) then glet (gsi S (S.2.2 3) 1 ((S.1 (S.2.2 3) 1) + (1 : Int32))) fun S3 => (some ((1 : Int32), S3)) else gbd (fX6_fail S (2 : Int32)) fun r5 S6 => (some ((0 : Int32), S6))) else none)
set_option maxRecDepth 100000 in
set_option maxHeartbeats 4000000 in
theorem wX6_tieKnot_0 {p : Program} {l : Launch} {e : Env} {s : State} {m : MethodId} {args : Array Value} {below : List Frame} {meth : Method} {c : Code} {E : GE} {res : (Int32 × GS)} (hc : GM E p s m args meth c RX6 cX6_tieKnot 1 (some .boolean)) : ∀ (S : GS) (H : Heap) (locs : List Loc) (ls : Array Slot), lv_has ls 1 [(0, gR E 31)] → GX E S H locs → fX6_tieKnot S = some res → W p l e rmX6_tieKnot s m args below meth c H locs 0 0 (gZ E below args s (some (.int res.1)) res.2) (F0 m 0 ls []) := by
  obtain ⟨hx, hb, -, -, -, hown, hts, -, -⟩ := id hc
  intro S H locs ls hl hG h
  unfold fX6_tieKnot at h
  refine lv_aload_n hx hb dX6_tieKnot_0 rfl (lv_at hl 0 rfl) ?_
  refine g_getR hc hG 31 (S.2.2 3) flX6_26 rfl rfl rfl dX6_tieKnot_1 ?_
  obtain ⟨hk1, h⟩ := g_if h
  refine g_getI hc hG (S.2.2 3) flX6_124 hk1 rfl dX6_tieKnot_4 ?_
  refine lv_bipush (v := (64 : Int32)) hx hb dX6_tieKnot_7 (by decide) ?_
  refine lv_icmp_lt (tgt := 19) hx hb dX6_tieKnot_9 (by decide) (fun c2 => ?_) (fun c2 => ?_)
  · have h := g_pos c2 h
    refine lv_aload_n hx hb dX6_tieKnot_19 rfl (lv_at hl 0 rfl) ?_
    refine g_getR hc hG 31 (S.2.2 3) flX6_26 rfl rfl rfl dX6_tieKnot_20 ?_
    refine lv_dup hx hb dX6_tieKnot_23 rfl ?_
    refine g_getI hc hG (S.2.2 3) flX6_124 hk1 rfl dX6_tieKnot_24 ?_
    refine lv_iconst (v := (1 : Int32)) hx hb dX6_tieKnot_27 (by decide) ?_
    refine lv_iadd hx hb dX6_tieKnot_28 ?_
    refine g_putI hc hG (S.2.2 3) fpX6_124 rfl rfl hk1 rfl dX6_tieKnot_29 (fun S3 H locs eS3 hG => ?_)
    have h := g_let eS3 h
    refine lv_iconst (v := (1 : Int32)) hx hb dX6_tieKnot_32 (by decide) ?_
    exact g_zret hc hG (Or.inr rfl) dX6_tieKnot_33 h
  · have h := g_neg c2 h
    refine lv_aload_n hx hb dX6_tieKnot_12 rfl (lv_at hl 0 rfl) ?_
    refine lv_iconst (v := (2 : Int32)) hx hb dX6_tieKnot_13 (by decide) ?_
    obtain ⟨r5, S6, hm4, h⟩ := g_bd h
    refine g_callVv (As := [.int (2 : Int32)]) hc hG (mX6_fail l E hm4) mlX6_49 mcX6_fail miX6_fail rfl rfl rfl rfl hl.1 rfl rfl ⟨by decide, by decide⟩ (Nat.le_of_ble_eq_true rfl) ⟨by decide, by decide⟩ dX6_tieKnot_14 rfl (fun H locs hG => ?_)
    refine lv_iconst (v := (0 : Int32)) hx hb dX6_tieKnot_17 (by decide) ?_
    exact g_zret hc hG (Or.inl rfl) dX6_tieKnot_18 h
theorem mX6_tieKnot (l : Launch) (E : GE) {S : GS} {res : (Int32 × GS)} (h : fX6_tieKnot S = some res) : gMet l E yX6_tieKnot cX6_tieKnot 1 (some .boolean) rmX6_tieKnot [gR E 31] S (some (.int res.1)) res.2 :=
  g_met (by decide) (Nat.le_of_ble_eq_true rfl) rfl fun p e s m below meth c H ls hc hG hl => wX6_tieKnot_0 hc S H [] ls hl hG h
abbrev rmX6_isStillWantedBehind : Room := { frames := 2, cells := 0, slots := 0, locals := 41 }
def fX6_isStillWantedBehind_98 (S : GS) : Option (Int32 × GS) := gbd (fX6_fail S (1 : Int32)) fun r2 S3 => (some ((0 : Int32), S3))
set_option maxRecDepth 100000 in
set_option maxHeartbeats 4000000 in
theorem wX6_isStillWantedBehind_98 {p : Program} {l : Launch} {e : Env} {s : State} {m : MethodId} {args : Array Value} {below : List Frame} {meth : Method} {c : Code} {E : GE} {res : (Int32 × GS)} (hc : GM E p s m args meth c RX6 cX6_isStillWantedBehind 3 (some .boolean)) : ∀ (S : GS) (H : Heap) (locs : List Loc) (ls : Array Slot), lv_has ls 3 [(0, gR E 31)] → GX E S H locs → fX6_isStillWantedBehind_98 S = some res → W p l e rmX6_isStillWantedBehind s m args below meth c H locs 0 0 (gZ E below args s (some (.int res.1)) res.2) (F0 m 98 ls []) := by
  obtain ⟨hx, hb, -, -, -, hown, hts, -, -⟩ := id hc
  intro S H locs ls hl hG h
  unfold fX6_isStillWantedBehind_98 at h
  refine lv_aload_n hx hb dX6_isStillWantedBehind_98 rfl (lv_at hl 0 rfl) ?_
  refine lv_iconst (v := (1 : Int32)) hx hb dX6_isStillWantedBehind_99 (by decide) ?_
  obtain ⟨r2, S3, hm1, h⟩ := g_bd h
  refine g_callVv (As := [.int (1 : Int32)]) hc hG (mX6_fail l E hm1) mlX6_49 mcX6_fail miX6_fail rfl rfl rfl rfl hl.1 rfl rfl ⟨by decide, by decide⟩ (Nat.le_of_ble_eq_true rfl) ⟨by decide, by decide⟩ dX6_isStillWantedBehind_100 rfl (fun H locs hG => ?_)
  refine lv_goto (tgt := 134) hx hb dX6_isStillWantedBehind_103 (by decide) ?_
  refine lv_iconst (v := (0 : Int32)) hx hb dX6_isStillWantedBehind_134 (by decide) ?_
  exact g_zret hc hG (Or.inl rfl) dX6_isStillWantedBehind_135 h
def fX6_isStillWantedBehind_131 (S : GS) (t0 : Nat) (t1 : Int32) : Option (Int32 × GS) := (if gk t0 = 2 then gbd (fX2_add S t0 t1) fun r3 S4 => (some ((0 : Int32), S4)) else none)
set_option maxRecDepth 100000 in
set_option maxHeartbeats 4000000 in
theorem wX6_isStillWantedBehind_131 {p : Program} {l : Launch} {e : Env} {s : State} {m : MethodId} {args : Array Value} {below : List Frame} {meth : Method} {c : Code} {E : GE} {res : (Int32 × GS)} (hc : GM E p s m args meth c RX6 cX6_isStillWantedBehind 3 (some .boolean)) : ∀ (S : GS) (t0 : Nat) (t1 : Int32) (H : Heap) (locs : List Loc) (ls : Array Slot), lv_has ls 3 [] → GX E S H locs → fX6_isStillWantedBehind_131 S t0 t1 = some res → W p l e rmX6_isStillWantedBehind s m args below meth c H locs 0 0 (gZ E below args s (some (.int res.1)) res.2) (F0 m 131 ls [.int t1, gR E t0]) := by
  obtain ⟨hx, hb, -, -, -, hown, hts, -, -⟩ := id hc
  intro S t0 t1 H locs ls hl hG h
  unfold fX6_isStillWantedBehind_131 at h
  obtain ⟨hk1, h⟩ := g_if h
  obtain ⟨r3, S4, hm2, h⟩ := g_bd h
  refine g_callVv (As := [.int t1]) hc hG (mX2_add l E hm2) mlX6_121 mcX2_add miX2_add hk1 rfl rfl rfl hl.1 rfl rfl ⟨by decide, by decide⟩ (Nat.le_of_ble_eq_true rfl) ⟨by decide, by decide⟩ dX6_isStillWantedBehind_131 rfl (fun H locs hG => ?_)
  refine lv_iconst (v := (0 : Int32)) hx hb dX6_isStillWantedBehind_134 (by decide) ?_
  exact g_zret hc hG (Or.inl rfl) dX6_isStillWantedBehind_135 h
def fX6_isStillWantedBehind_106 (S : GS) (a1 : Nat) (a2 : Int32) : Option (Int32 × GS) := gbd (fX6_tieKnot S) fun r2 S3 => (if r2 = 0 then (some ((0 : Int32), S3)) else (if a2 = (3 : Int32) then (fX6_isStillWantedBehind_131 S3 a1 (S3.1 32 5)) else (fX6_isStillWantedBehind_131 S3 a1 (-a2))))
set_option maxRecDepth 100000 in
set_option maxHeartbeats 4000000 in
theorem wX6_isStillWantedBehind_106 {p : Program} {l : Launch} {e : Env} {s : State} {m : MethodId} {args : Array Value} {below : List Frame} {meth : Method} {c : Code} {E : GE} {res : (Int32 × GS)} (hc : GM E p s m args meth c RX6 cX6_isStillWantedBehind 3 (some .boolean)) : ∀ (S : GS) (a1 : Nat) (a2 : Int32) (H : Heap) (locs : List Loc) (ls : Array Slot), lv_has ls 3 [(0, gR E 31), (1, gR E a1), (2, .int a2)] → GX E S H locs → fX6_isStillWantedBehind_106 S a1 a2 = some res → W p l e rmX6_isStillWantedBehind s m args below meth c H locs 0 0 (gZ E below args s (some (.int res.1)) res.2) (F0 m 106 ls []) := by
  obtain ⟨hx, hb, -, -, -, hown, hts, -, -⟩ := id hc
  intro S a1 a2 H locs ls hl hG h
  unfold fX6_isStillWantedBehind_106 at h
  refine lv_aload_n hx hb dX6_isStillWantedBehind_106 rfl (lv_at hl 0 rfl) ?_
  obtain ⟨r2, S3, hm1, h⟩ := g_bd h
  refine g_callVi (As := []) hc hG (mX6_tieKnot l E hm1) mlX6_114 mcX6_tieKnot miX6_tieKnot rfl rfl rfl rfl hl.1 rfl rfl ⟨by decide, by decide⟩ (Nat.le_of_ble_eq_true rfl) ⟨by decide, by decide⟩ dX6_isStillWantedBehind_107 rfl (fun H locs hG => ?_)
  refine lv_if_eq (tgt := 134) hx hb dX6_isStillWantedBehind_110 (by decide) (fun c4 => ?_) (fun c4 => ?_)
  · have h := g_pos c4 h
    refine lv_iconst (v := (0 : Int32)) hx hb dX6_isStillWantedBehind_134 (by decide) ?_
    exact g_zret hc hG (Or.inl rfl) dX6_isStillWantedBehind_135 h
  · have h := g_neg c4 h
    refine lv_aload_n hx hb dX6_isStillWantedBehind_113 rfl (lv_at hl 1 rfl) ?_
    refine lv_iload_n hx hb dX6_isStillWantedBehind_114 rfl (lv_at hl 2 rfl) ?_
    refine lv_iconst (v := (3 : Int32)) hx hb dX6_isStillWantedBehind_115 (by decide) ?_
    refine lv_icmp_ne (tgt := 129) hx hb dX6_isStillWantedBehind_116 (by decide) (fun c5 => ?_) (fun c5 => ?_)
    · have h := g_neg c5 h
      refine lv_iload_n hx hb dX6_isStillWantedBehind_129 rfl (lv_at hl 2 rfl) ?_
      refine lv_ineg hx hb dX6_isStillWantedBehind_130 ?_
      exact wX6_isStillWantedBehind_131 hc S3 a1 (-a2) _ _ _ (lv_sub hl [] rfl) hG h
    · have h := g_pos c5 h
      refine lv_aload_n hx hb dX6_isStillWantedBehind_119 rfl (lv_at hl 0 rfl) ?_
      refine g_getR hc hG 31 32 flX6_18 rfl rfl rfl dX6_isStillWantedBehind_120 ?_
      refine g_getI hc hG 32 flX6_81 rfl rfl dX6_isStillWantedBehind_123 ?_
      refine lv_goto (tgt := 131) hx hb dX6_isStillWantedBehind_126 (by decide) ?_
      exact wX6_isStillWantedBehind_131 hc S3 a1 (S3.1 32 5) _ _ _ (lv_sub hl [] rfl) hG h
def fX6_isStillWantedBehind_81 (S : GS) (a1 : Nat) (a2 : Int32) : Option (Int32 × GS) := (if a2 = (3 : Int32) then (fX6_isStillWantedBehind_106 S a1 a2) else (if a2 < (20 : Int32) then (fX6_isStillWantedBehind_98 S) else (if a2 ≤ (27 : Int32) then (fX6_isStillWantedBehind_106 S a1 a2) else (fX6_isStillWantedBehind_98 S))))
set_option maxRecDepth 100000 in
set_option maxHeartbeats 4000000 in
theorem wX6_isStillWantedBehind_81 {p : Program} {l : Launch} {e : Env} {s : State} {m : MethodId} {args : Array Value} {below : List Frame} {meth : Method} {c : Code} {E : GE} {res : (Int32 × GS)} (hc : GM E p s m args meth c RX6 cX6_isStillWantedBehind 3 (some .boolean)) : ∀ (S : GS) (a1 : Nat) (a2 : Int32) (H : Heap) (locs : List Loc) (ls : Array Slot), lv_has ls 3 [(0, gR E 31), (1, gR E a1), (2, .int a2)] → GX E S H locs → fX6_isStillWantedBehind_81 S a1 a2 = some res → W p l e rmX6_isStillWantedBehind s m args below meth c H locs 0 0 (gZ E below args s (some (.int res.1)) res.2) (F0 m 81 ls []) := by
  obtain ⟨hx, hb, -, -, -, hown, hts, -, -⟩ := id hc
  intro S a1 a2 H locs ls hl hG h
  unfold fX6_isStillWantedBehind_81 at h
  refine lv_iload_n hx hb dX6_isStillWantedBehind_81 rfl (lv_at hl 2 rfl) ?_
  refine lv_iconst (v := (3 : Int32)) hx hb dX6_isStillWantedBehind_82 (by decide) ?_
  refine lv_icmp_eq (tgt := 106) hx hb dX6_isStillWantedBehind_83 (by decide) (fun c1 => ?_) (fun c1 => ?_)
  · have h := g_pos c1 h
    exact wX6_isStillWantedBehind_106 hc S a1 a2 _ _ _ (lv_sub hl [0, 1, 2] rfl) hG h
  · have h := g_neg c1 h
    refine lv_iload_n hx hb dX6_isStillWantedBehind_86 rfl (lv_at hl 2 rfl) ?_
    refine lv_bipush (v := (20 : Int32)) hx hb dX6_isStillWantedBehind_87 (by decide) ?_
    refine lv_icmp_lt (tgt := 98) hx hb dX6_isStillWantedBehind_89 (by decide) (fun c2 => ?_) (fun c2 => ?_)
    · have h := g_pos c2 h
      exact wX6_isStillWantedBehind_98 hc S _ _ _ (lv_sub hl [0] rfl) hG h
    · have h := g_neg c2 h
      refine lv_iload_n hx hb dX6_isStillWantedBehind_92 rfl (lv_at hl 2 rfl) ?_
      refine lv_bipush (v := (27 : Int32)) hx hb dX6_isStillWantedBehind_93 (by decide) ?_
      refine lv_icmp_le (tgt := 106) hx hb dX6_isStillWantedBehind_95 (by decide) (fun c3 => ?_) (fun c3 => ?_)
      · have h := g_pos c3 h
        exact wX6_isStillWantedBehind_106 hc S a1 a2 _ _ _ (lv_sub hl [0, 1, 2] rfl) hG h
      · have h := g_neg c3 h
        exact wX6_isStillWantedBehind_98 hc S _ _ _ (lv_sub hl [0] rfl) hG h
def fX6_isStillWantedBehind_55 (S : GS) (a1 : Nat) (a2 : Int32) : Option (Int32 × GS) := (if a2 = (3 : Int32) then (if (S.1 32 5) ≤ (9999 : Int32) then (fX6_isStillWantedBehind_81 S a1 a2) else gbd (fX6_fail S (2 : Int32)) fun r4 S5 => (some ((0 : Int32), S5))) else (fX6_isStillWantedBehind_81 S a1 a2))
set_option maxRecDepth 100000 in
set_option maxHeartbeats 4000000 in
theorem wX6_isStillWantedBehind_55 {p : Program} {l : Launch} {e : Env} {s : State} {m : MethodId} {args : Array Value} {below : List Frame} {meth : Method} {c : Code} {E : GE} {res : (Int32 × GS)} (hc : GM E p s m args meth c RX6 cX6_isStillWantedBehind 3 (some .boolean)) : ∀ (S : GS) (a1 : Nat) (a2 : Int32) (H : Heap) (locs : List Loc) (ls : Array Slot), lv_has ls 3 [(0, gR E 31), (1, gR E a1), (2, .int a2)] → GX E S H locs → fX6_isStillWantedBehind_55 S a1 a2 = some res → W p l e rmX6_isStillWantedBehind s m args below meth c H locs 0 0 (gZ E below args s (some (.int res.1)) res.2) (F0 m 55 ls []) := by
  obtain ⟨hx, hb, -, -, -, hown, hts, -, -⟩ := id hc
  intro S a1 a2 H locs ls hl hG h
  unfold fX6_isStillWantedBehind_55 at h
  refine lv_iload_n hx hb dX6_isStillWantedBehind_55 rfl (lv_at hl 2 rfl) ?_
  refine lv_iconst (v := (3 : Int32)) hx hb dX6_isStillWantedBehind_56 (by decide) ?_
  refine lv_icmp_ne (tgt := 81) hx hb dX6_isStillWantedBehind_57 (by decide) (fun c1 => ?_) (fun c1 => ?_)
  · have h := g_neg c1 h
    exact wX6_isStillWantedBehind_81 hc S a1 a2 _ _ _ (lv_sub hl [0, 1, 2] rfl) hG h
  · have h := g_pos c1 h
    refine lv_aload_n hx hb dX6_isStillWantedBehind_60 rfl (lv_at hl 0 rfl) ?_
    refine g_getR hc hG 31 32 flX6_18 rfl rfl rfl dX6_isStillWantedBehind_61 ?_
    refine g_getI hc hG 32 flX6_81 rfl rfl dX6_isStillWantedBehind_64 ?_
    refine lv_sipush (v := (9999 : Int32)) hx hb dX6_isStillWantedBehind_67 (by decide) ?_
    refine lv_icmp_le (tgt := 81) hx hb dX6_isStillWantedBehind_70 (by decide) (fun c2 => ?_) (fun c2 => ?_)
    · have h := g_pos c2 h
      exact wX6_isStillWantedBehind_81 hc S a1 a2 _ _ _ (lv_sub hl [0, 1, 2] rfl) hG h
    · have h := g_neg c2 h
      refine lv_aload_n hx hb dX6_isStillWantedBehind_73 rfl (lv_at hl 0 rfl) ?_
      refine lv_iconst (v := (2 : Int32)) hx hb dX6_isStillWantedBehind_74 (by decide) ?_
      obtain ⟨r4, S5, hm3, h⟩ := g_bd h
      refine g_callVv (As := [.int (2 : Int32)]) hc hG (mX6_fail l E hm3) mlX6_49 mcX6_fail miX6_fail rfl rfl rfl rfl hl.1 rfl rfl ⟨by decide, by decide⟩ (Nat.le_of_ble_eq_true rfl) ⟨by decide, by decide⟩ dX6_isStillWantedBehind_75 rfl (fun H locs hG => ?_)
      refine lv_goto (tgt := 134) hx hb dX6_isStillWantedBehind_78 (by decide) ?_
      refine lv_iconst (v := (0 : Int32)) hx hb dX6_isStillWantedBehind_134 (by decide) ?_
      exact g_zret hc hG (Or.inl rfl) dX6_isStillWantedBehind_135 h
def fX6_isStillWantedBehind (S : GS) (a1 : Nat) : Option (Int32 × GS) := glet (S.1 32 3) fun v1 => (if v1 = (5 : Int32) then gbd (fX6_openOne S) fun r19 S20 => (some ((1 : Int32), S20)) else (if v1 = (17 : Int32) then gbv (fX6_lastWaiting S) fun r5 => gbv (fX6_strengthOf S r5) fun r7 => gbv (fX6_strengthOf S (17 : Int32)) fun r9 => (if r9 < r7 then (fX6_isStillWantedBehind_55 S a1 v1) else gbd (fX6_tieKnot S) fun r12 S13 => (if r12 = 0 then (some ((1 : Int32), S13)) else gbd (fX6_await S13 (17 : Int32)) fun r16 S17 => (some ((1 : Int32), S17)))) else (fX6_isStillWantedBehind_55 S a1 v1)))
set_option maxRecDepth 100000 in
set_option maxHeartbeats 4000000 in
theorem wX6_isStillWantedBehind_0 {p : Program} {l : Launch} {e : Env} {s : State} {m : MethodId} {args : Array Value} {below : List Frame} {meth : Method} {c : Code} {E : GE} {res : (Int32 × GS)} (hc : GM E p s m args meth c RX6 cX6_isStillWantedBehind 3 (some .boolean)) : ∀ (S : GS) (a1 : Nat) (H : Heap) (locs : List Loc) (ls : Array Slot), lv_has ls 3 [(0, gR E 31), (1, gR E a1)] → GX E S H locs → fX6_isStillWantedBehind S a1 = some res → W p l e rmX6_isStillWantedBehind s m args below meth c H locs 0 0 (gZ E below args s (some (.int res.1)) res.2) (F0 m 0 ls []) := by
  obtain ⟨hx, hb, -, -, -, hown, hts, -, -⟩ := id hc
  intro S a1 H locs ls hl hG h
  unfold fX6_isStillWantedBehind at h
  refine lv_aload_n hx hb dX6_isStillWantedBehind_0 rfl (lv_at hl 0 rfl) ?_
  refine g_getR hc hG 31 32 flX6_18 rfl rfl rfl dX6_isStillWantedBehind_1 ?_
  refine g_getI hc hG 32 flX6_42 rfl rfl dX6_isStillWantedBehind_4 ?_
  refine lv_topi (fun v1 ev1 => ?_)
  have h := g_let ev1 h
  refine lv_istore_n (lv' := [(2, .int v1), (0, gR E 31), (1, gR E a1)]) hx hb dX6_isStillWantedBehind_7 rfl hl (by decide) rfl (fun ls hl => ?_)
  refine lv_iload_n hx hb dX6_isStillWantedBehind_8 rfl (lv_at hl 0 rfl) ?_
  refine lv_iconst (v := (5 : Int32)) hx hb dX6_isStillWantedBehind_9 (by decide) ?_
  refine lv_icmp_ne (tgt := 19) hx hb dX6_isStillWantedBehind_10 (by decide) (fun c2 => ?_) (fun c2 => ?_)
  · have h := g_neg c2 h
    refine lv_iload_n hx hb dX6_isStillWantedBehind_19 rfl (lv_at hl 0 rfl) ?_
    refine lv_bipush (v := (17 : Int32)) hx hb dX6_isStillWantedBehind_20 (by decide) ?_
    refine lv_icmp_ne (tgt := 55) hx hb dX6_isStillWantedBehind_22 (by decide) (fun c3 => ?_) (fun c3 => ?_)
    · have h := g_neg c3 h
      exact wX6_isStillWantedBehind_55 hc S a1 v1 _ _ _ (lv_sub hl [1, 2, 0] rfl) hG h
    · have h := g_pos c3 h
      refine lv_aload_n hx hb dX6_isStillWantedBehind_25 rfl (lv_at hl 1 rfl) ?_
      obtain ⟨r5, hm4, h⟩ := g_bv h
      refine g_callVi (As := []) hc hG (mX6_lastWaiting l E hm4) mlX6_106 mcX6_lastWaiting miX6_lastWaiting rfl rfl rfl rfl hl.1 rfl rfl ⟨by decide, by decide⟩ (Nat.le_of_ble_eq_true rfl) ⟨by decide, by decide⟩ dX6_isStillWantedBehind_26 rfl (fun H locs hG => ?_)
      obtain ⟨r7, hm6, h⟩ := g_bv h
      refine g_callSi (As := [.int r5]) hc hG (mX6_strengthOf l E hm6) mlX6_110 mcX6_strengthOf msX6_strengthOf rfl hl.1 rfl rfl ⟨by decide, by decide⟩ (Nat.le_of_ble_eq_true rfl) ⟨by decide, by decide⟩ dX6_isStillWantedBehind_29 rfl (fun H locs hG => ?_)
      refine lv_bipush (v := (17 : Int32)) hx hb dX6_isStillWantedBehind_32 (by decide) ?_
      obtain ⟨r9, hm8, h⟩ := g_bv h
      refine g_callSi (As := [.int (17 : Int32)]) hc hG (mX6_strengthOf l E hm8) mlX6_110 mcX6_strengthOf msX6_strengthOf rfl hl.1 rfl rfl ⟨by decide, by decide⟩ (Nat.le_of_ble_eq_true rfl) ⟨by decide, by decide⟩ dX6_isStillWantedBehind_34 rfl (fun H locs hG => ?_)
      refine lv_icmp_gt (tgt := 55) hx hb dX6_isStillWantedBehind_37 (by decide) (fun c10 => ?_) (fun c10 => ?_)
      · have h := g_pos c10 h
        exact wX6_isStillWantedBehind_55 hc S a1 v1 _ _ _ (lv_sub hl [1, 2, 0] rfl) hG h
      · have h := g_neg c10 h
        refine lv_aload_n hx hb dX6_isStillWantedBehind_40 rfl (lv_at hl 1 rfl) ?_
        obtain ⟨r12, S13, hm11, h⟩ := g_bd h
        refine g_callVi (As := []) hc hG (mX6_tieKnot l E hm11) mlX6_114 mcX6_tieKnot miX6_tieKnot rfl rfl rfl rfl hl.1 rfl rfl ⟨by decide, by decide⟩ (Nat.le_of_ble_eq_true rfl) ⟨by decide, by decide⟩ dX6_isStillWantedBehind_41 rfl (fun H locs hG => ?_)
        refine lv_if_eq (tgt := 53) hx hb dX6_isStillWantedBehind_44 (by decide) (fun c14 => ?_) (fun c14 => ?_)
        · have h := g_pos c14 h
          refine lv_iconst (v := (1 : Int32)) hx hb dX6_isStillWantedBehind_53 (by decide) ?_
          exact g_zret hc hG (Or.inr rfl) dX6_isStillWantedBehind_54 h
        · have h := g_neg c14 h
          refine lv_aload_n hx hb dX6_isStillWantedBehind_47 rfl (lv_at hl 1 rfl) ?_
          refine lv_bipush (v := (17 : Int32)) hx hb dX6_isStillWantedBehind_48 (by decide) ?_
          obtain ⟨r16, S17, hm15, h⟩ := g_bd h
          refine g_callVv (As := [.int (17 : Int32)]) hc hG (mX6_await l E hm15) mlX6_118 mcX6_await miX6_await rfl rfl rfl rfl hl.1 rfl rfl ⟨by decide, by decide⟩ (Nat.le_of_ble_eq_true rfl) ⟨by decide, by decide⟩ dX6_isStillWantedBehind_50 rfl (fun H locs hG => ?_)
          refine lv_iconst (v := (1 : Int32)) hx hb dX6_isStillWantedBehind_53 (by decide) ?_
          exact g_zret hc hG (Or.inr rfl) dX6_isStillWantedBehind_54 h
  · have h := g_pos c2 h
    refine lv_aload_n hx hb dX6_isStillWantedBehind_13 rfl (lv_at hl 1 rfl) ?_
    obtain ⟨r19, S20, hm18, h⟩ := g_bd h
    refine g_callVv (As := []) hc hG (mX6_openOne l E hm18) mlX6_103 mcX6_openOne miX6_openOne rfl rfl rfl rfl hl.1 rfl rfl ⟨by decide, by decide⟩ (Nat.le_of_ble_eq_true rfl) ⟨by decide, by decide⟩ dX6_isStillWantedBehind_14 rfl (fun H locs hG => ?_)
    refine lv_iconst (v := (1 : Int32)) hx hb dX6_isStillWantedBehind_17 (by decide) ?_
    exact g_zret hc hG (Or.inr rfl) dX6_isStillWantedBehind_18 h
theorem mX6_isStillWantedBehind (l : Launch) (E : GE) {S : GS} {a1 : Nat} {res : (Int32 × GS)} (h : fX6_isStillWantedBehind S a1 = some res) : gMet l E yX6_isStillWantedBehind cX6_isStillWantedBehind 3 (some .boolean) rmX6_isStillWantedBehind [gR E 31, gR E a1] S (some (.int res.1)) res.2 :=
  g_met (by decide) (Nat.le_of_ble_eq_true rfl) rfl fun p e s m below meth c H ls hc hG hl => wX6_isStillWantedBehind_0 hc S a1 H [] ls hl hG h
abbrev rmX6_isWantedBehindSign : Room := { frames := 2, cells := 0, slots := 0, locals := 43 }
def fX6_isWantedBehindSign_64 (S : GS) : Option (Int32 × GS) := gbd (fX6_fail S (1 : Int32)) fun r2 S3 => (some ((1 : Int32), S3))
set_option maxRecDepth 100000 in
set_option maxHeartbeats 4000000 in
theorem wX6_isWantedBehindSign_64 {p : Program} {l : Launch} {e : Env} {s : State} {m : MethodId} {args : Array Value} {below : List Frame} {meth : Method} {c : Code} {E : GE} {res : (Int32 × GS)} (hc : GM E p s m args meth c RX6 cX6_isWantedBehindSign 5 (some .boolean)) : ∀ (S : GS) (H : Heap) (locs : List Loc) (ls : Array Slot), lv_has ls 5 [(0, gR E 31)] → GX E S H locs → fX6_isWantedBehindSign_64 S = some res → W p l e rmX6_isWantedBehindSign s m args below meth c H locs 0 0 (gZ E below args s (some (.int res.1)) res.2) (F0 m 64 ls []) := by
  obtain ⟨hx, hb, -, -, -, hown, hts, -, -⟩ := id hc
  intro S H locs ls hl hG h
  unfold fX6_isWantedBehindSign_64 at h
  refine lv_aload_n hx hb dX6_isWantedBehindSign_64 rfl (lv_at hl 0 rfl) ?_
  refine lv_iconst (v := (1 : Int32)) hx hb dX6_isWantedBehindSign_65 (by decide) ?_
  obtain ⟨r2, S3, hm1, h⟩ := g_bd h
  refine g_callVv (As := [.int (1 : Int32)]) hc hG (mX6_fail l E hm1) mlX6_49 mcX6_fail miX6_fail rfl rfl rfl rfl hl.1 rfl rfl ⟨by decide, by decide⟩ (Nat.le_of_ble_eq_true rfl) ⟨by decide, by decide⟩ dX6_isWantedBehindSign_66 rfl (fun H locs hG => ?_)
  refine lv_iconst (v := (1 : Int32)) hx hb dX6_isWantedBehindSign_69 (by decide) ?_
  exact g_zret hc hG (Or.inr rfl) dX6_isWantedBehindSign_70 h
def fX6_isWantedBehindSign_128 (S : GS) (a2 : Int32) : Option (Int32 × GS) := gbd (fX6_tieKnot S) fun r2 S3 => (if r2 = 0 then (some ((1 : Int32), S3)) else gbd (fX6_await S3 a2) fun r6 S7 => (some ((1 : Int32), S7)))
set_option maxRecDepth 100000 in
set_option maxHeartbeats 4000000 in
theorem wX6_isWantedBehindSign_128 {p : Program} {l : Launch} {e : Env} {s : State} {m : MethodId} {args : Array Value} {below : List Frame} {meth : Method} {c : Code} {E : GE} {res : (Int32 × GS)} (hc : GM E p s m args meth c RX6 cX6_isWantedBehindSign 5 (some .boolean)) : ∀ (S : GS) (a2 : Int32) (H : Heap) (locs : List Loc) (ls : Array Slot), lv_has ls 5 [(0, gR E 31), (2, .int a2)] → GX E S H locs → fX6_isWantedBehindSign_128 S a2 = some res → W p l e rmX6_isWantedBehindSign s m args below meth c H locs 0 0 (gZ E below args s (some (.int res.1)) res.2) (F0 m 128 ls []) := by
  obtain ⟨hx, hb, -, -, -, hown, hts, -, -⟩ := id hc
  intro S a2 H locs ls hl hG h
  unfold fX6_isWantedBehindSign_128 at h
  refine lv_aload_n hx hb dX6_isWantedBehindSign_128 rfl (lv_at hl 0 rfl) ?_
  obtain ⟨r2, S3, hm1, h⟩ := g_bd h
  refine g_callVi (As := []) hc hG (mX6_tieKnot l E hm1) mlX6_114 mcX6_tieKnot miX6_tieKnot rfl rfl rfl rfl hl.1 rfl rfl ⟨by decide, by decide⟩ (Nat.le_of_ble_eq_true rfl) ⟨by decide, by decide⟩ dX6_isWantedBehindSign_129 rfl (fun H locs hG => ?_)
  refine lv_if_eq (tgt := 140) hx hb dX6_isWantedBehindSign_132 (by decide) (fun c4 => ?_) (fun c4 => ?_)
  · have h := g_pos c4 h
    refine lv_iconst (v := (1 : Int32)) hx hb dX6_isWantedBehindSign_140 (by decide) ?_
    exact g_zret hc hG (Or.inr rfl) dX6_isWantedBehindSign_141 h
  · have h := g_neg c4 h
    refine lv_aload_n hx hb dX6_isWantedBehindSign_135 rfl (lv_at hl 0 rfl) ?_
    refine lv_iload_n hx hb dX6_isWantedBehindSign_136 rfl (lv_at hl 1 rfl) ?_
    obtain ⟨r6, S7, hm5, h⟩ := g_bd h
    refine g_callVv (As := [.int a2]) hc hG (mX6_await l E hm5) mlX6_118 mcX6_await miX6_await rfl rfl rfl rfl hl.1 rfl rfl ⟨by decide, by decide⟩ (Nat.le_of_ble_eq_true rfl) ⟨by decide, by decide⟩ dX6_isWantedBehindSign_137 rfl (fun H locs hG => ?_)
    refine lv_iconst (v := (1 : Int32)) hx hb dX6_isWantedBehindSign_140 (by decide) ?_
    exact g_zret hc hG (Or.inr rfl) dX6_isWantedBehindSign_141 h
def fX6_isWantedBehindSign_101 (S : GS) (t1 : Nat) (t2 : Int32) (a2 : Int32) (a3 : Int32) (a4 : Int32) : Option (Int32 × GS) := gbd (fX6_release S t1 t2) fun r2 S3 => (if a4 = 0 then (fX6_isWantedBehindSign_128 S3 a2) else gbv (fX6_lastWaiting S3) fun r6 => gbv (fX6_strengthOf S3 r6) fun r8 => (if r8 = a3 then gbd (fX6_fail S3 (1 : Int32)) fun r11 S12 => (some ((1 : Int32), S12)) else (fX6_isWantedBehindSign_128 S3 a2)))
set_option maxRecDepth 100000 in
set_option maxHeartbeats 4000000 in
theorem wX6_isWantedBehindSign_101 {p : Program} {l : Launch} {e : Env} {s : State} {m : MethodId} {args : Array Value} {below : List Frame} {meth : Method} {c : Code} {E : GE} {res : (Int32 × GS)} (hc : GM E p s m args meth c RX6 cX6_isWantedBehindSign 5 (some .boolean)) : ∀ (S : GS) (t1 : Nat) (t2 : Int32) (a2 : Int32) (a3 : Int32) (a4 : Int32) (H : Heap) (locs : List Loc) (ls : Array Slot), lv_has ls 5 [(0, gR E 31), (2, .int a2), (3, .int a3), (4, .int a4)] → GX E S H locs → fX6_isWantedBehindSign_101 S t1 t2 a2 a3 a4 = some res → W p l e rmX6_isWantedBehindSign s m args below meth c H locs 0 0 (gZ E below args s (some (.int res.1)) res.2) (F0 m 101 ls [.int t2, gR E t1, gR E 31]) := by
  obtain ⟨hx, hb, -, -, -, hown, hts, -, -⟩ := id hc
  intro S t1 t2 a2 a3 a4 H locs ls hl hG h
  unfold fX6_isWantedBehindSign_101 at h
  obtain ⟨r2, S3, hm1, h⟩ := g_bd h
  refine g_callVv (As := [gR E t1, .int t2]) hc hG (mX6_release l E hm1) mlX6_93 mcX6_release miX6_release rfl rfl rfl rfl hl.1 rfl rfl ⟨by decide, by decide⟩ (Nat.le_of_ble_eq_true rfl) ⟨by decide, by decide⟩ dX6_isWantedBehindSign_101 rfl (fun H locs hG => ?_)
  refine lv_iload hx hb dX6_isWantedBehindSign_104 (lv_at hl 3 rfl) ?_
  refine lv_if_eq (tgt := 128) hx hb dX6_isWantedBehindSign_106 (by decide) (fun c4 => ?_) (fun c4 => ?_)
  · have h := g_pos c4 h
    exact wX6_isWantedBehindSign_128 hc S3 a2 _ _ _ (lv_sub hl [0, 1] rfl) hG h
  · have h := g_neg c4 h
    refine lv_aload_n hx hb dX6_isWantedBehindSign_109 rfl (lv_at hl 0 rfl) ?_
    obtain ⟨r6, hm5, h⟩ := g_bv h
    refine g_callVi (As := []) hc hG (mX6_lastWaiting l E hm5) mlX6_106 mcX6_lastWaiting miX6_lastWaiting rfl rfl rfl rfl hl.1 rfl rfl ⟨by decide, by decide⟩ (Nat.le_of_ble_eq_true rfl) ⟨by decide, by decide⟩ dX6_isWantedBehindSign_110 rfl (fun H locs hG => ?_)
    obtain ⟨r8, hm7, h⟩ := g_bv h
    refine g_callSi (As := [.int r6]) hc hG (mX6_strengthOf l E hm7) mlX6_110 mcX6_strengthOf msX6_strengthOf rfl hl.1 rfl rfl ⟨by decide, by decide⟩ (Nat.le_of_ble_eq_true rfl) ⟨by decide, by decide⟩ dX6_isWantedBehindSign_113 rfl (fun H locs hG => ?_)
    refine lv_iload_n hx hb dX6_isWantedBehindSign_116 rfl (lv_at hl 2 rfl) ?_
    refine lv_icmp_ne (tgt := 128) hx hb dX6_isWantedBehindSign_117 (by decide) (fun c9 => ?_) (fun c9 => ?_)
    · have h := g_neg c9 h
      exact wX6_isWantedBehindSign_128 hc S3 a2 _ _ _ (lv_sub hl [0, 1] rfl) hG h
    · have h := g_pos c9 h
      refine lv_aload_n hx hb dX6_isWantedBehindSign_120 rfl (lv_at hl 0 rfl) ?_
      refine lv_iconst (v := (1 : Int32)) hx hb dX6_isWantedBehindSign_121 (by decide) ?_
      obtain ⟨r11, S12, hm10, h⟩ := g_bd h
      refine g_callVv (As := [.int (1 : Int32)]) hc hG (mX6_fail l E hm10) mlX6_49 mcX6_fail miX6_fail rfl rfl rfl rfl hl.1 rfl rfl ⟨by decide, by decide⟩ (Nat.le_of_ble_eq_true rfl) ⟨by decide, by decide⟩ dX6_isWantedBehindSign_122 rfl (fun H locs hG => ?_)
      refine lv_goto (tgt := 140) hx hb dX6_isWantedBehindSign_125 (by decide) ?_
      refine lv_iconst (v := (1 : Int32)) hx hb dX6_isWantedBehindSign_140 (by decide) ?_
      exact g_zret hc hG (Or.inr rfl) dX6_isWantedBehindSign_141 h
def fX6_isWantedBehindSign_85 (S : GS) (t0 : Int32) (a1 : Nat) (a2 : Int32) (a3 : Int32) : Option (Int32 × GS) := (if t0 = 0 then (fX6_isWantedBehindSign_101 S a1 a3 a2 a3 t0) else (fX6_isWantedBehindSign_101 S a1 (a3 + (1 : Int32)) a2 a3 t0))
set_option maxRecDepth 100000 in
set_option maxHeartbeats 4000000 in
theorem wX6_isWantedBehindSign_85 {p : Program} {l : Launch} {e : Env} {s : State} {m : MethodId} {args : Array Value} {below : List Frame} {meth : Method} {c : Code} {E : GE} {res : (Int32 × GS)} (hc : GM E p s m args meth c RX6 cX6_isWantedBehindSign 5 (some .boolean)) : ∀ (S : GS) (t0 : Int32) (a1 : Nat) (a2 : Int32) (a3 : Int32) (H : Heap) (locs : List Loc) (ls : Array Slot), lv_has ls 5 [(0, gR E 31), (1, gR E a1), (2, .int a2), (3, .int a3)] → GX E S H locs → fX6_isWantedBehindSign_85 S t0 a1 a2 a3 = some res → W p l e rmX6_isWantedBehindSign s m args below meth c H locs 0 0 (gZ E below args s (some (.int res.1)) res.2) (F0 m 85 ls [.int t0]) := by
  obtain ⟨hx, hb, -, -, -, hown, hts, -, -⟩ := id hc
  intro S t0 a1 a2 a3 H locs ls hl hG h
  unfold fX6_isWantedBehindSign_85 at h
  refine lv_istore (lv' := [(4, .int t0), (0, gR E 31), (1, gR E a1), (2, .int a2), (3, .int a3)]) hx hb dX6_isWantedBehindSign_85 hl (by decide) rfl (fun ls hl => ?_)
  refine lv_aload_n hx hb dX6_isWantedBehindSign_87 rfl (lv_at hl 1 rfl) ?_
  refine lv_aload_n hx hb dX6_isWantedBehindSign_88 rfl (lv_at hl 2 rfl) ?_
  refine lv_iload hx hb dX6_isWantedBehindSign_89 (lv_at hl 0 rfl) ?_
  refine lv_if_eq (tgt := 100) hx hb dX6_isWantedBehindSign_91 (by decide) (fun c1 => ?_) (fun c1 => ?_)
  · have h := g_pos c1 h
    refine lv_iload_n hx hb dX6_isWantedBehindSign_100 rfl (lv_at hl 4 rfl) ?_
    exact wX6_isWantedBehindSign_101 hc S a1 a3 a2 a3 t0 _ _ _ (lv_sub hl [1, 3, 4, 0] rfl) hG h
  · have h := g_neg c1 h
    refine lv_iload_n hx hb dX6_isWantedBehindSign_94 rfl (lv_at hl 4 rfl) ?_
    refine lv_iconst (v := (1 : Int32)) hx hb dX6_isWantedBehindSign_95 (by decide) ?_
    refine lv_iadd hx hb dX6_isWantedBehindSign_96 ?_
    refine lv_goto (tgt := 101) hx hb dX6_isWantedBehindSign_97 (by decide) ?_
    exact wX6_isWantedBehindSign_101 hc S a1 (a3 + (1 : Int32)) a2 a3 t0 _ _ _ (lv_sub hl [1, 3, 4, 0] rfl) hG h
def fX6_isWantedBehindSign_49 (S : GS) (a1 : Nat) (a2 : Int32) : Option (Int32 × GS) := gbv (fX6_strengthOf S a2) fun r2 => (if r2 = 0 then (fX6_isWantedBehindSign_64 S) else (if a2 = (17 : Int32) then (fX6_isWantedBehindSign_64 S) else gbv (fX6_strengthOf S (9 : Int32)) fun r6 => (if r2 = r6 then (fX6_isWantedBehindSign_85 S (1 : Int32) a1 a2 r2) else (fX6_isWantedBehindSign_85 S (0 : Int32) a1 a2 r2))))
set_option maxRecDepth 100000 in
set_option maxHeartbeats 4000000 in
theorem wX6_isWantedBehindSign_49 {p : Program} {l : Launch} {e : Env} {s : State} {m : MethodId} {args : Array Value} {below : List Frame} {meth : Method} {c : Code} {E : GE} {res : (Int32 × GS)} (hc : GM E p s m args meth c RX6 cX6_isWantedBehindSign 5 (some .boolean)) : ∀ (S : GS) (a1 : Nat) (a2 : Int32) (H : Heap) (locs : List Loc) (ls : Array Slot), lv_has ls 5 [(0, gR E 31), (1, gR E a1), (2, .int a2)] → GX E S H locs → fX6_isWantedBehindSign_49 S a1 a2 = some res → W p l e rmX6_isWantedBehindSign s m args below meth c H locs 0 0 (gZ E below args s (some (.int res.1)) res.2) (F0 m 49 ls []) := by
  obtain ⟨hx, hb, -, -, -, hown, hts, -, -⟩ := id hc
  intro S a1 a2 H locs ls hl hG h
  unfold fX6_isWantedBehindSign_49 at h
  refine lv_iload_n hx hb dX6_isWantedBehindSign_49 rfl (lv_at hl 2 rfl) ?_
  obtain ⟨r2, hm1, h⟩ := g_bv h
  refine g_callSi (As := [.int a2]) hc hG (mX6_strengthOf l E hm1) mlX6_110 mcX6_strengthOf msX6_strengthOf rfl hl.1 rfl rfl ⟨by decide, by decide⟩ (Nat.le_of_ble_eq_true rfl) ⟨by decide, by decide⟩ dX6_isWantedBehindSign_50 rfl (fun H locs hG => ?_)
  refine lv_istore_n (lv' := [(3, .int r2), (0, gR E 31), (1, gR E a1), (2, .int a2)]) hx hb dX6_isWantedBehindSign_53 rfl hl (by decide) rfl (fun ls hl => ?_)
  refine lv_iload_n hx hb dX6_isWantedBehindSign_54 rfl (lv_at hl 0 rfl) ?_
  refine lv_if_eq (tgt := 64) hx hb dX6_isWantedBehindSign_55 (by decide) (fun c3 => ?_) (fun c3 => ?_)
  · have h := g_pos c3 h
    exact wX6_isWantedBehindSign_64 hc S _ _ _ (lv_sub hl [1] rfl) hG h
  · have h := g_neg c3 h
    refine lv_iload_n hx hb dX6_isWantedBehindSign_58 rfl (lv_at hl 3 rfl) ?_
    refine lv_bipush (v := (17 : Int32)) hx hb dX6_isWantedBehindSign_59 (by decide) ?_
    refine lv_icmp_ne (tgt := 71) hx hb dX6_isWantedBehindSign_61 (by decide) (fun c4 => ?_) (fun c4 => ?_)
    · have h := g_neg c4 h
      refine lv_iload_n hx hb dX6_isWantedBehindSign_71 rfl (lv_at hl 0 rfl) ?_
      refine lv_bipush (v := (9 : Int32)) hx hb dX6_isWantedBehindSign_72 (by decide) ?_
      obtain ⟨r6, hm5, h⟩ := g_bv h
      refine g_callSi (As := [.int (9 : Int32)]) hc hG (mX6_strengthOf l E hm5) mlX6_110 mcX6_strengthOf msX6_strengthOf rfl hl.1 rfl rfl ⟨by decide, by decide⟩ (Nat.le_of_ble_eq_true rfl) ⟨by decide, by decide⟩ dX6_isWantedBehindSign_74 rfl (fun H locs hG => ?_)
      refine lv_icmp_ne (tgt := 84) hx hb dX6_isWantedBehindSign_77 (by decide) (fun c7 => ?_) (fun c7 => ?_)
      · have h := g_neg c7 h
        refine lv_iconst (v := (0 : Int32)) hx hb dX6_isWantedBehindSign_84 (by decide) ?_
        exact wX6_isWantedBehindSign_85 hc S (0 : Int32) a1 a2 r2 _ _ _ (lv_sub hl [1, 2, 3, 0] rfl) hG h
      · have h := g_pos c7 h
        refine lv_iconst (v := (1 : Int32)) hx hb dX6_isWantedBehindSign_80 (by decide) ?_
        refine lv_goto (tgt := 85) hx hb dX6_isWantedBehindSign_81 (by decide) ?_
        exact wX6_isWantedBehindSign_85 hc S (1 : Int32) a1 a2 r2 _ _ _ (lv_sub hl [1, 2, 3, 0] rfl) hG h
    · have h := g_pos c4 h
      exact wX6_isWantedBehindSign_64 hc S _ _ _ (lv_sub hl [1] rfl) hG h
def fX6_isWantedBehindSign (S : GS) (a1 : Nat) : Option (Int32 × GS) := glet (S.1 32 3) fun v1 => (if v1 = (6 : Int32) then (if (S.1 31 6) ≤ 0 then (fX6_isWantedBehindSign_49 S a1 v1) else gbd (fX6_release S a1 (0 : Int32)) fun r5 S6 => glet (gsi S6 31 6 ((S6.1 31 6) - (1 : Int32))) fun S7 => glet (gsi S7 31 5 ((S7.1 31 5) - (1 : Int32))) fun S8 => (some ((0 : Int32), S8))) else (fX6_isWantedBehindSign_49 S a1 v1))
set_option maxRecDepth 100000 in
set_option maxHeartbeats 4000000 in
theorem wX6_isWantedBehindSign_0 {p : Program} {l : Launch} {e : Env} {s : State} {m : MethodId} {args : Array Value} {below : List Frame} {meth : Method} {c : Code} {E : GE} {res : (Int32 × GS)} (hc : GM E p s m args meth c RX6 cX6_isWantedBehindSign 5 (some .boolean)) : ∀ (S : GS) (a1 : Nat) (H : Heap) (locs : List Loc) (ls : Array Slot), lv_has ls 5 [(0, gR E 31), (1, gR E a1)] → GX E S H locs → fX6_isWantedBehindSign S a1 = some res → W p l e rmX6_isWantedBehindSign s m args below meth c H locs 0 0 (gZ E below args s (some (.int res.1)) res.2) (F0 m 0 ls []) := by
  obtain ⟨hx, hb, -, -, -, hown, hts, -, -⟩ := id hc
  intro S a1 H locs ls hl hG h
  unfold fX6_isWantedBehindSign at h
  refine lv_aload_n hx hb dX6_isWantedBehindSign_0 rfl (lv_at hl 0 rfl) ?_
  refine g_getR hc hG 31 32 flX6_18 rfl rfl rfl dX6_isWantedBehindSign_1 ?_
  refine g_getI hc hG 32 flX6_42 rfl rfl dX6_isWantedBehindSign_4 ?_
  refine lv_topi (fun v1 ev1 => ?_)
  have h := g_let ev1 h
  refine lv_istore_n (lv' := [(2, .int v1), (0, gR E 31), (1, gR E a1)]) hx hb dX6_isWantedBehindSign_7 rfl hl (by decide) rfl (fun ls hl => ?_)
  refine lv_iload_n hx hb dX6_isWantedBehindSign_8 rfl (lv_at hl 0 rfl) ?_
  refine lv_bipush (v := (6 : Int32)) hx hb dX6_isWantedBehindSign_9 (by decide) ?_
  refine lv_icmp_ne (tgt := 49) hx hb dX6_isWantedBehindSign_11 (by decide) (fun c2 => ?_) (fun c2 => ?_)
  · have h := g_neg c2 h
    exact wX6_isWantedBehindSign_49 hc S a1 v1 _ _ _ (lv_sub hl [1, 2, 0] rfl) hG h
  · have h := g_pos c2 h
    refine lv_aload_n hx hb dX6_isWantedBehindSign_14 rfl (lv_at hl 1 rfl) ?_
    refine g_getI hc hG 31 flX6_90 rfl rfl dX6_isWantedBehindSign_15 ?_
    refine lv_if_le (tgt := 49) hx hb dX6_isWantedBehindSign_18 (by decide) (fun c3 => ?_) (fun c3 => ?_)
    · have h := g_pos c3 h
      exact wX6_isWantedBehindSign_49 hc S a1 v1 _ _ _ (lv_sub hl [1, 2, 0] rfl) hG h
    · have h := g_neg c3 h
      refine lv_aload_n hx hb dX6_isWantedBehindSign_21 rfl (lv_at hl 1 rfl) ?_
      refine lv_aload_n hx hb dX6_isWantedBehindSign_22 rfl (lv_at hl 2 rfl) ?_
      refine lv_iconst (v := (0 : Int32)) hx hb dX6_isWantedBehindSign_23 (by decide) ?_
      obtain ⟨r5, S6, hm4, h⟩ := g_bd h
      refine g_callVv (As := [gR E a1, .int (0 : Int32)]) hc hG (mX6_release l E hm4) mlX6_93 mcX6_release miX6_release rfl rfl rfl rfl hl.1 rfl rfl ⟨by decide, by decide⟩ (Nat.le_of_ble_eq_true rfl) ⟨by decide, by decide⟩ dX6_isWantedBehindSign_24 rfl (fun H locs hG => ?_)
      refine lv_aload_n hx hb dX6_isWantedBehindSign_27 rfl (lv_at hl 1 rfl) ?_
      refine lv_dup hx hb dX6_isWantedBehindSign_28 rfl ?_
      refine g_getI hc hG 31 flX6_90 rfl rfl dX6_isWantedBehindSign_29 ?_
      refine lv_iconst (v := (1 : Int32)) hx hb dX6_isWantedBehindSign_32 (by decide) ?_
      refine lv_isub hx hb dX6_isWantedBehindSign_33 ?_
      refine g_putI hc hG 31 fpX6_90 rfl rfl rfl rfl dX6_isWantedBehindSign_34 (fun S7 H locs eS7 hG => ?_)
      have h := g_let eS7 h
      refine lv_aload_n hx hb dX6_isWantedBehindSign_37 rfl (lv_at hl 1 rfl) ?_
      refine lv_dup hx hb dX6_isWantedBehindSign_38 rfl ?_
      refine g_getI hc hG 31 flX6_87 rfl rfl dX6_isWantedBehindSign_39 ?_
      refine lv_iconst (v := (1 : Int32)) hx hb dX6_isWantedBehindSign_42 (by decide) ?_
      refine lv_isub hx hb dX6_isWantedBehindSign_43 ?_
      refine g_putI hc hG 31 fpX6_87 rfl rfl rfl rfl dX6_isWantedBehindSign_44 (fun S8 H locs eS8 hG => ?_)
      have h := g_let eS8 h
      refine lv_iconst (v := (0 : Int32)) hx hb dX6_isWantedBehindSign_47 (by decide) ?_
      exact g_zret hc hG (Or.inl rfl) dX6_isWantedBehindSign_48 h
theorem mX6_isWantedBehindSign (l : Launch) (E : GE) {S : GS} {a1 : Nat} {res : (Int32 × GS)} (h : fX6_isWantedBehindSign S a1 = some res) : gMet l E yX6_isWantedBehindSign cX6_isWantedBehindSign 5 (some .boolean) rmX6_isWantedBehindSign [gR E 31, gR E a1] S (some (.int res.1)) res.2 :=
  g_met (by decide) (Nat.le_of_ble_eq_true rfl) rfl fun p e s m below meth c H ls hc hG hl => wX6_isWantedBehindSign_0 hc S a1 H [] ls hl hG h
abbrev rmX6_readFormula : Room := { frames := 7, cells := 0, slots := 0, locals := 148 }
def fX6_readFormula_79 (k20 : GS → Nat → Int32 → Int32 → Int32 → Option (Unit × GS)) (S : GS) (t0 : Int32) (a1 : Nat) (a2 : Int32) (a4 : Int32) : Option (Unit × GS) := gbd (fX8_advance S) fun r2 S3 => glet (a4 + (1 : Int32)) fun v4 => (k20 S3 a1 a2 t0 v4)
set_option maxRecDepth 100000 in
set_option maxHeartbeats 4000000 in
theorem wX6_readFormula_79 {p : Program} {l : Launch} {e : Env} {s : State} {m : MethodId} {args : Array Value} {below : List Frame} {meth : Method} {c : Code} {E : GE} {res : (Unit × GS)} {k20 : GS → Nat → Int32 → Int32 → Int32 → Option (Unit × GS)} (hc : GM E p s m args meth c RX6 cX6_readFormula 5 none) (hk20 : ∀ (S : GS) (a1 : Nat) (a2 : Int32) (a3 : Int32) (a4 : Int32) (H : Heap) (locs : List Loc) (ls : Array Slot), lv_has ls 5 [(0, gR E 31), (1, gR E a1), (2, .int a2), (3, .int a3), (4, .int a4)] → GX E S H locs → k20 S a1 a2 a3 a4 = some res → W p l e rmX6_readFormula s m args below meth c H locs 0 0 (gZ E below args s none res.2) (F0 m 20 ls [])) : ∀ (S : GS) (t0 : Int32) (a1 : Nat) (a2 : Int32) (a4 : Int32) (H : Heap) (locs : List Loc) (ls : Array Slot), lv_has ls 5 [(0, gR E 31), (1, gR E a1), (2, .int a2), (4, .int a4)] → GX E S H locs → fX6_readFormula_79 k20 S t0 a1 a2 a4 = some res → W p l e rmX6_readFormula s m args below meth c H locs 0 0 (gZ E below args s none res.2) (F0 m 79 ls [.int t0]) := by
  obtain ⟨hx, hb, -, -, -, hown, hts, -, -⟩ := id hc
  intro S t0 a1 a2 a4 H locs ls hl hG h
  unfold fX6_readFormula_79 at h
  refine lv_istore_n (lv' := [(3, .int t0), (0, gR E 31), (1, gR E a1), (2, .int a2), (4, .int a4)]) hx hb dX6_readFormula_79 rfl hl (by decide) rfl (fun ls hl => ?_)
  refine lv_aload_n hx hb dX6_readFormula_80 rfl (lv_at hl 1 rfl) ?_
  refine g_getR hc hG 31 32 flX6_18 rfl rfl rfl dX6_readFormula_81 ?_
  obtain ⟨r2, S3, hm1, h⟩ := g_bd h
  refine g_callVv (As := []) hc hG (mX8_advance l E hm1) mlX6_71 mcX8_advance miX8_advance rfl rfl rfl rfl hl.1 rfl rfl ⟨by decide, by decide⟩ (Nat.le_of_ble_eq_true rfl) ⟨by decide, by decide⟩ dX6_readFormula_84 rfl (fun H locs hG => ?_)
  obtain ⟨v4, ev4⟩ : ∃ y : Int32, y = (a4 + (1 : Int32)) := ⟨_, rfl⟩
  have h := g_let ev4 h
  refine lv_iinc (v := v4) (lv' := [(4, .int v4), (3, .int t0), (0, gR E 31), (1, gR E a1), (2, .int a2)]) hx hb dX6_readFormula_87 hl (k := 4) rfl (by rw [ev4]; rfl) (by decide) rfl (fun ls hl => ?_)
  refine lv_goto (tgt := 20) hx hb dX6_readFormula_90 (by decide) ?_
  exact hk20 S3 a1 a2 t0 v4 _ _ _ (lv_sub hl [2, 3, 4, 1, 0] rfl) hG h
def fX6_readFormula_62 (k20 : GS → Nat → Int32 → Int32 → Int32 → Option (Unit × GS)) (S : GS) (a1 : Nat) (a2 : Int32) (a3 : Int32) (a4 : Int32) : Option (Unit × GS) := (if a3 = 0 then gbd (fX6_isWantedBehindSign S a1) fun r3 S4 => (fX6_readFormula_79 k20 S4 r3 a1 a2 a4) else gbd (fX6_isStillWantedBehind S a1) fun r6 S7 => (fX6_readFormula_79 k20 S7 r6 a1 a2 a4))
set_option maxRecDepth 100000 in
set_option maxHeartbeats 4000000 in
theorem wX6_readFormula_62 {p : Program} {l : Launch} {e : Env} {s : State} {m : MethodId} {args : Array Value} {below : List Frame} {meth : Method} {c : Code} {E : GE} {res : (Unit × GS)} {k20 : GS → Nat → Int32 → Int32 → Int32 → Option (Unit × GS)} (hc : GM E p s m args meth c RX6 cX6_readFormula 5 none) (hk20 : ∀ (S : GS) (a1 : Nat) (a2 : Int32) (a3 : Int32) (a4 : Int32) (H : Heap) (locs : List Loc) (ls : Array Slot), lv_has ls 5 [(0, gR E 31), (1, gR E a1), (2, .int a2), (3, .int a3), (4, .int a4)] → GX E S H locs → k20 S a1 a2 a3 a4 = some res → W p l e rmX6_readFormula s m args below meth c H locs 0 0 (gZ E below args s none res.2) (F0 m 20 ls [])) : ∀ (S : GS) (a1 : Nat) (a2 : Int32) (a3 : Int32) (a4 : Int32) (H : Heap) (locs : List Loc) (ls : Array Slot), lv_has ls 5 [(0, gR E 31), (1, gR E a1), (2, .int a2), (3, .int a3), (4, .int a4)] → GX E S H locs → fX6_readFormula_62 k20 S a1 a2 a3 a4 = some res → W p l e rmX6_readFormula s m args below meth c H locs 0 0 (gZ E below args s none res.2) (F0 m 62 ls []) := by
  obtain ⟨hx, hb, -, -, -, hown, hts, -, -⟩ := id hc
  intro S a1 a2 a3 a4 H locs ls hl hG h
  unfold fX6_readFormula_62 at h
  refine lv_iload_n hx hb dX6_readFormula_62 rfl (lv_at hl 3 rfl) ?_
  refine lv_if_eq (tgt := 74) hx hb dX6_readFormula_63 (by decide) (fun c1 => ?_) (fun c1 => ?_)
  · have h := g_pos c1 h
    refine lv_aload_n hx hb dX6_readFormula_74 rfl (lv_at hl 0 rfl) ?_
    refine lv_aload_n hx hb dX6_readFormula_75 rfl (lv_at hl 1 rfl) ?_
    obtain ⟨r3, S4, hm2, h⟩ := g_bd h
    refine g_callVi (As := [gR E a1]) hc hG (mX6_isWantedBehindSign l E hm2) mlX6_100 mcX6_isWantedBehindSign miX6_isWantedBehindSign rfl rfl rfl rfl hl.1 rfl rfl ⟨by decide, by decide⟩ (Nat.le_of_ble_eq_true rfl) ⟨by decide, by decide⟩ dX6_readFormula_76 rfl (fun H locs hG => ?_)
    exact wX6_readFormula_79 hc hk20 S4 r3 a1 a2 a4 _ _ _ (lv_sub hl [0, 1, 2, 4] rfl) hG h
  · have h := g_neg c1 h
    refine lv_aload_n hx hb dX6_readFormula_66 rfl (lv_at hl 0 rfl) ?_
    refine lv_aload_n hx hb dX6_readFormula_67 rfl (lv_at hl 1 rfl) ?_
    obtain ⟨r6, S7, hm5, h⟩ := g_bd h
    refine g_callVi (As := [gR E a1]) hc hG (mX6_isStillWantedBehind l E hm5) mlX6_96 mcX6_isStillWantedBehind miX6_isStillWantedBehind rfl rfl rfl rfl hl.1 rfl rfl ⟨by decide, by decide⟩ (Nat.le_of_ble_eq_true rfl) ⟨by decide, by decide⟩ dX6_readFormula_68 rfl (fun H locs hG => ?_)
    refine lv_goto (tgt := 79) hx hb dX6_readFormula_71 (by decide) ?_
    exact wX6_readFormula_79 hc hk20 S7 r6 a1 a2 a4 _ _ _ (lv_sub hl [0, 1, 2, 4] rfl) hG h
def fX6_readFormula_20 : Nat → GS → Nat → Int32 → Int32 → Int32 → Option (Unit × GS)
  | 0, _, _, _, _, _ => none
  | n + 1, S, a1, a2, a3, a4 => (if a2 < a4 then (some ((), S)) else (if (S.1 31 0) = 0 then (if a3 = 0 then (if (S.1 31 6) = 0 then (if (S.1 32 3) = (4 : Int32) then gbd (fX6_release S a1 (0 : Int32)) fun r7 S8 => (some ((), S8)) else (fX6_readFormula_62 (fX6_readFormula_20 n) S a1 a2 a3 a4)) else (fX6_readFormula_62 (fX6_readFormula_20 n) S a1 a2 a3 a4)) else (fX6_readFormula_62 (fX6_readFormula_20 n) S a1 a2 a3 a4)) else (some ((), S))))
set_option maxRecDepth 100000 in
set_option maxHeartbeats 4000000 in
theorem wX6_readFormula_20 {p : Program} {l : Launch} {e : Env} {s : State} {m : MethodId} {args : Array Value} {below : List Frame} {meth : Method} {c : Code} {E : GE} {res : (Unit × GS)} (hc : GM E p s m args meth c RX6 cX6_readFormula 5 none) : ∀ (n : Nat), ∀ (S : GS) (a1 : Nat) (a2 : Int32) (a3 : Int32) (a4 : Int32) (H : Heap) (locs : List Loc) (ls : Array Slot), lv_has ls 5 [(0, gR E 31), (1, gR E a1), (2, .int a2), (3, .int a3), (4, .int a4)] → GX E S H locs → fX6_readFormula_20 n S a1 a2 a3 a4 = some res → W p l e rmX6_readFormula s m args below meth c H locs 0 0 (gZ E below args s none res.2) (F0 m 20 ls []) := by
  obtain ⟨hx, hb, -, -, -, hown, hts, -, -⟩ := id hc
  intro n
  induction n with
  | zero => intro S a1 a2 a3 a4 H locs ls hl hG h; cases h
  | succ n ih =>
    intro S a1 a2 a3 a4 H locs ls hl hG h
    rw [fX6_readFormula_20] at h
    refine lv_iload hx hb dX6_readFormula_20 (lv_at hl 4 rfl) ?_
    refine lv_iload_n hx hb dX6_readFormula_22 rfl (lv_at hl 2 rfl) ?_
    refine lv_icmp_gt (tgt := 93) hx hb dX6_readFormula_23 (by decide) (fun c1 => ?_) (fun c1 => ?_)
    · have h := g_pos c1 h
      exact g_vret hc hG dX6_readFormula_93 h
    · have h := g_neg c1 h
      refine lv_aload_n hx hb dX6_readFormula_26 rfl (lv_at hl 0 rfl) ?_
      refine g_getI hc hG 31 flX6_30 rfl rfl dX6_readFormula_27 ?_
      refine lv_if_ne (tgt := 93) hx hb dX6_readFormula_30 (by decide) (fun c2 => ?_) (fun c2 => ?_)
      · have h := g_neg c2 h
        exact g_vret hc hG dX6_readFormula_93 h
      · have h := g_pos c2 h
        refine lv_iload_n hx hb dX6_readFormula_33 rfl (lv_at hl 3 rfl) ?_
        refine lv_if_ne (tgt := 62) hx hb dX6_readFormula_34 (by decide) (fun c3 => ?_) (fun c3 => ?_)
        · have h := g_neg c3 h
          exact wX6_readFormula_62 hc ih S a1 a2 a3 a4 _ _ _ (lv_sub hl [0, 1, 2, 3, 4] rfl) hG h
        · have h := g_pos c3 h
          refine lv_aload_n hx hb dX6_readFormula_37 rfl (lv_at hl 0 rfl) ?_
          refine g_getI hc hG 31 flX6_90 rfl rfl dX6_readFormula_38 ?_
          refine lv_if_ne (tgt := 62) hx hb dX6_readFormula_41 (by decide) (fun c4 => ?_) (fun c4 => ?_)
          · have h := g_neg c4 h
            exact wX6_readFormula_62 hc ih S a1 a2 a3 a4 _ _ _ (lv_sub hl [0, 1, 2, 3, 4] rfl) hG h
          · have h := g_pos c4 h
            refine lv_aload_n hx hb dX6_readFormula_44 rfl (lv_at hl 0 rfl) ?_
            refine g_getR hc hG 31 32 flX6_18 rfl rfl rfl dX6_readFormula_45 ?_
            refine g_getI hc hG 32 flX6_42 rfl rfl dX6_readFormula_48 ?_
            refine lv_iconst (v := (4 : Int32)) hx hb dX6_readFormula_51 (by decide) ?_
            refine lv_icmp_ne (tgt := 62) hx hb dX6_readFormula_52 (by decide) (fun c5 => ?_) (fun c5 => ?_)
            · have h := g_neg c5 h
              exact wX6_readFormula_62 hc ih S a1 a2 a3 a4 _ _ _ (lv_sub hl [0, 1, 2, 3, 4] rfl) hG h
            · have h := g_pos c5 h
              refine lv_aload_n hx hb dX6_readFormula_55 rfl (lv_at hl 0 rfl) ?_
              refine lv_aload_n hx hb dX6_readFormula_56 rfl (lv_at hl 1 rfl) ?_
              refine lv_iconst (v := (0 : Int32)) hx hb dX6_readFormula_57 (by decide) ?_
              obtain ⟨r7, S8, hm6, h⟩ := g_bd h
              refine g_callVv (As := [gR E a1, .int (0 : Int32)]) hc hG (mX6_release l E hm6) mlX6_93 mcX6_release miX6_release rfl rfl rfl rfl hl.1 rfl rfl ⟨by decide, by decide⟩ (Nat.le_of_ble_eq_true rfl) ⟨by decide, by decide⟩ dX6_readFormula_58 rfl (fun H locs hG => ?_)
              exact g_vret hc hG dX6_readFormula_61 h
def fX6_readFormula (S : GS) (a1 : Nat) (a2 : Int32) : Option (Unit × GS) := (if gk a1 = 2 then glet (gsi S a1 0 (1 : Int32)) fun S2 => glet (gsi S2 31 5 (0 : Int32)) fun S3 => glet (gsi S3 31 6 (0 : Int32)) fun S4 => glet (1 : Int32) fun v5 => glet (0 : Int32) fun v6 => (fX6_readFormula_20 FU S4 a1 a2 v5 v6) else none)
set_option maxRecDepth 100000 in
set_option maxHeartbeats 4000000 in
theorem wX6_readFormula_0 {p : Program} {l : Launch} {e : Env} {s : State} {m : MethodId} {args : Array Value} {below : List Frame} {meth : Method} {c : Code} {E : GE} {res : (Unit × GS)} (hc : GM E p s m args meth c RX6 cX6_readFormula 5 none) : ∀ (S : GS) (a1 : Nat) (a2 : Int32) (H : Heap) (locs : List Loc) (ls : Array Slot), lv_has ls 5 [(0, gR E 31), (1, gR E a1), (2, .int a2)] → GX E S H locs → fX6_readFormula S a1 a2 = some res → W p l e rmX6_readFormula s m args below meth c H locs 0 0 (gZ E below args s none res.2) (F0 m 0 ls []) := by
  obtain ⟨hx, hb, -, -, -, hown, hts, -, -⟩ := id hc
  intro S a1 a2 H locs ls hl hG h
  unfold fX6_readFormula at h
  refine lv_aload_n hx hb dX6_readFormula_0 rfl (lv_at hl 1 rfl) ?_
  refine lv_iconst (v := (1 : Int32)) hx hb dX6_readFormula_1 (by decide) ?_
  obtain ⟨hk1, h⟩ := g_if h
  refine g_putI hc hG a1 fpX6_63 rfl (by decide) hk1 rfl dX6_readFormula_2 (fun S2 H locs eS2 hG => ?_)
  have h := g_let eS2 h
  refine lv_aload_n hx hb dX6_readFormula_5 rfl (lv_at hl 0 rfl) ?_
  refine lv_iconst (v := (0 : Int32)) hx hb dX6_readFormula_6 (by decide) ?_
  refine g_putI hc hG 31 fpX6_87 rfl rfl rfl rfl dX6_readFormula_7 (fun S3 H locs eS3 hG => ?_)
  have h := g_let eS3 h
  refine lv_aload_n hx hb dX6_readFormula_10 rfl (lv_at hl 0 rfl) ?_
  refine lv_iconst (v := (0 : Int32)) hx hb dX6_readFormula_11 (by decide) ?_
  refine g_putI hc hG 31 fpX6_90 rfl rfl rfl rfl dX6_readFormula_12 (fun S4 H locs eS4 hG => ?_)
  have h := g_let eS4 h
  refine lv_iconst (v := (1 : Int32)) hx hb dX6_readFormula_15 (by decide) ?_
  refine lv_topi (fun v5 ev5 => ?_)
  have h := g_let ev5 h
  refine lv_istore_n (lv' := [(3, .int v5), (0, gR E 31), (1, gR E a1), (2, .int a2)]) hx hb dX6_readFormula_16 rfl hl (by decide) rfl (fun ls hl => ?_)
  refine lv_iconst (v := (0 : Int32)) hx hb dX6_readFormula_17 (by decide) ?_
  refine lv_topi (fun v6 ev6 => ?_)
  have h := g_let ev6 h
  refine lv_istore (lv' := [(4, .int v6), (3, .int v5), (0, gR E 31), (1, gR E a1), (2, .int a2)]) hx hb dX6_readFormula_18 hl (by decide) rfl (fun ls hl => ?_)
  exact wX6_readFormula_20 hc FU S4 a1 a2 v5 v6 _ _ _ (lv_sub hl [2, 3, 4, 1, 0] rfl) hG h
theorem mX6_readFormula (l : Launch) (E : GE) {S : GS} {a1 : Nat} {a2 : Int32} {res : (Unit × GS)} (h : fX6_readFormula S a1 a2 = some res) : gMet l E yX6_readFormula cX6_readFormula 5 none rmX6_readFormula [gR E 31, gR E a1, .int a2] S none res.2 :=
  g_met (by decide) (Nat.le_of_ble_eq_true rfl) rfl fun p e s m below meth c H ls hc hG hl => wX6_readFormula_0 hc S a1 a2 H [] ls hl hG h
abbrev rmX6_readLine : Room := { frames := 8, cells := 0, slots := 0, locals := 172 }
def fX6_readLine_82 (S : GS) : Option (Unit × GS) := gbd (fX6_fail S (3 : Int32)) fun r2 S3 => (some ((), S3))
set_option maxRecDepth 100000 in
set_option maxHeartbeats 4000000 in
theorem wX6_readLine_82 {p : Program} {l : Launch} {e : Env} {s : State} {m : MethodId} {args : Array Value} {below : List Frame} {meth : Method} {c : Code} {E : GE} {res : (Unit × GS)} (hc : GM E p s m args meth c RX6 cX6_readLine 4 none) : ∀ (S : GS) (H : Heap) (locs : List Loc) (ls : Array Slot), lv_has ls 4 [(0, gR E 31)] → GX E S H locs → fX6_readLine_82 S = some res → W p l e rmX6_readLine s m args below meth c H locs 0 0 (gZ E below args s none res.2) (F0 m 82 ls []) := by
  obtain ⟨hx, hb, -, -, -, hown, hts, -, -⟩ := id hc
  intro S H locs ls hl hG h
  unfold fX6_readLine_82 at h
  refine lv_aload_n hx hb dX6_readLine_82 rfl (lv_at hl 0 rfl) ?_
  refine lv_iconst (v := (3 : Int32)) hx hb dX6_readLine_83 (by decide) ?_
  obtain ⟨r2, S3, hm1, h⟩ := g_bd h
  refine g_callVv (As := [.int (3 : Int32)]) hc hG (mX6_fail l E hm1) mlX6_49 mcX6_fail miX6_fail rfl rfl rfl rfl hl.1 rfl rfl ⟨by decide, by decide⟩ (Nat.le_of_ble_eq_true rfl) ⟨by decide, by decide⟩ dX6_readLine_84 rfl (fun H locs hG => ?_)
  exact g_vret hc hG dX6_readLine_87 h
def fX6_readLine_150 (S : GS) : Option (Unit × GS) := gbd (fX8_advance S) fun r2 S3 => (some ((), S3))
set_option maxRecDepth 100000 in
set_option maxHeartbeats 4000000 in
theorem wX6_readLine_150 {p : Program} {l : Launch} {e : Env} {s : State} {m : MethodId} {args : Array Value} {below : List Frame} {meth : Method} {c : Code} {E : GE} {res : (Unit × GS)} (hc : GM E p s m args meth c RX6 cX6_readLine 4 none) : ∀ (S : GS) (H : Heap) (locs : List Loc) (ls : Array Slot), lv_has ls 4 [(0, gR E 31)] → GX E S H locs → fX6_readLine_150 S = some res → W p l e rmX6_readLine s m args below meth c H locs 0 0 (gZ E below args s none res.2) (F0 m 150 ls []) := by
  obtain ⟨hx, hb, -, -, -, hown, hts, -, -⟩ := id hc
  intro S H locs ls hl hG h
  unfold fX6_readLine_150 at h
  refine lv_aload_n hx hb dX6_readLine_150 rfl (lv_at hl 0 rfl) ?_
  refine g_getR hc hG 31 32 flX6_18 rfl rfl rfl dX6_readLine_151 ?_
  obtain ⟨r2, S3, hm1, h⟩ := g_bd h
  refine g_callVv (As := []) hc hG (mX8_advance l E hm1) mlX6_71 mcX8_advance miX8_advance rfl rfl rfl rfl hl.1 rfl rfl ⟨by decide, by decide⟩ (Nat.le_of_ble_eq_true rfl) ⟨by decide, by decide⟩ dX6_readLine_154 rfl (fun H locs hG => ?_)
  exact g_vret hc hG dX6_readLine_157 h
def fX6_readLine_127 (S : GS) : Option (Unit × GS) := (if (S.1 31 0) = 0 then (if (S.1 32 3) = (4 : Int32) then (fX6_readLine_150 S) else gbd (fX6_fail S (1 : Int32)) fun r4 S5 => (fX6_readLine_150 S5)) else (fX6_readLine_150 S))
set_option maxRecDepth 100000 in
set_option maxHeartbeats 4000000 in
theorem wX6_readLine_127 {p : Program} {l : Launch} {e : Env} {s : State} {m : MethodId} {args : Array Value} {below : List Frame} {meth : Method} {c : Code} {E : GE} {res : (Unit × GS)} (hc : GM E p s m args meth c RX6 cX6_readLine 4 none) : ∀ (S : GS) (H : Heap) (locs : List Loc) (ls : Array Slot), lv_has ls 4 [(0, gR E 31)] → GX E S H locs → fX6_readLine_127 S = some res → W p l e rmX6_readLine s m args below meth c H locs 0 0 (gZ E below args s none res.2) (F0 m 127 ls []) := by
  obtain ⟨hx, hb, -, -, -, hown, hts, -, -⟩ := id hc
  intro S H locs ls hl hG h
  unfold fX6_readLine_127 at h
  refine lv_aload_n hx hb dX6_readLine_127 rfl (lv_at hl 0 rfl) ?_
  refine g_getI hc hG 31 flX6_30 rfl rfl dX6_readLine_128 ?_
  refine lv_if_ne (tgt := 150) hx hb dX6_readLine_131 (by decide) (fun c1 => ?_) (fun c1 => ?_)
  · have h := g_neg c1 h
    exact wX6_readLine_150 hc S _ _ _ (lv_sub hl [0] rfl) hG h
  · have h := g_pos c1 h
    refine lv_aload_n hx hb dX6_readLine_134 rfl (lv_at hl 0 rfl) ?_
    refine g_getR hc hG 31 32 flX6_18 rfl rfl rfl dX6_readLine_135 ?_
    refine g_getI hc hG 32 flX6_42 rfl rfl dX6_readLine_138 ?_
    refine lv_iconst (v := (4 : Int32)) hx hb dX6_readLine_141 (by decide) ?_
    refine lv_icmp_eq (tgt := 150) hx hb dX6_readLine_142 (by decide) (fun c2 => ?_) (fun c2 => ?_)
    · have h := g_pos c2 h
      exact wX6_readLine_150 hc S _ _ _ (lv_sub hl [0] rfl) hG h
    · have h := g_neg c2 h
      refine lv_aload_n hx hb dX6_readLine_145 rfl (lv_at hl 0 rfl) ?_
      refine lv_iconst (v := (1 : Int32)) hx hb dX6_readLine_146 (by decide) ?_
      obtain ⟨r4, S5, hm3, h⟩ := g_bd h
      refine g_callVv (As := [.int (1 : Int32)]) hc hG (mX6_fail l E hm3) mlX6_49 mcX6_fail miX6_fail rfl rfl rfl rfl hl.1 rfl rfl ⟨by decide, by decide⟩ (Nat.le_of_ble_eq_true rfl) ⟨by decide, by decide⟩ dX6_readLine_147 rfl (fun H locs hG => ?_)
      exact wX6_readLine_150 hc S5 _ _ _ (lv_sub hl [0] rfl) hG h
def fX6_readLine_88 (S : GS) (a1 : Int32) (a2 : Int32) (a3 : Nat) : Option (Unit × GS) := (if gk (S.2.2 3) = 7 then glet (gsi S (S.2.2 3) 0 ((S.1 (S.2.2 3) 0) + (1 : Int32))) fun S2 => gbd (fX8_advance S2) fun r4 S5 => (if a2 = (30 : Int32) then gbd (fX6_readDoubts S5) fun r11 S12 => (fX6_readLine_127 S12) else gbd (fX6_readFormula S5 a3 a1) fun r8 S9 => (fX6_readLine_127 S9)) else none)
set_option maxRecDepth 100000 in
set_option maxHeartbeats 4000000 in
theorem wX6_readLine_88 {p : Program} {l : Launch} {e : Env} {s : State} {m : MethodId} {args : Array Value} {below : List Frame} {meth : Method} {c : Code} {E : GE} {res : (Unit × GS)} (hc : GM E p s m args meth c RX6 cX6_readLine 4 none) : ∀ (S : GS) (a1 : Int32) (a2 : Int32) (a3 : Nat) (H : Heap) (locs : List Loc) (ls : Array Slot), lv_has ls 4 [(0, gR E 31), (1, .int a1), (2, .int a2), (3, gR E a3)] → GX E S H locs → fX6_readLine_88 S a1 a2 a3 = some res → W p l e rmX6_readLine s m args below meth c H locs 0 0 (gZ E below args s none res.2) (F0 m 88 ls []) := by
  obtain ⟨hx, hb, -, -, -, hown, hts, -, -⟩ := id hc
  intro S a1 a2 a3 H locs ls hl hG h
  unfold fX6_readLine_88 at h
  refine lv_aload_n hx hb dX6_readLine_88 rfl (lv_at hl 0 rfl) ?_
  refine g_getR hc hG 31 (S.2.2 3) flX6_26 rfl rfl rfl dX6_readLine_89 ?_
  refine lv_dup hx hb dX6_readLine_92 rfl ?_
  obtain ⟨hk1, h⟩ := g_if h
  refine g_getI hc hG (S.2.2 3) flX6_68 hk1 rfl dX6_readLine_93 ?_
  refine lv_iconst (v := (1 : Int32)) hx hb dX6_readLine_96 (by decide) ?_
  refine lv_iadd hx hb dX6_readLine_97 ?_
  refine g_putI hc hG (S.2.2 3) fpX6_68 rfl rfl hk1 rfl dX6_readLine_98 (fun S2 H locs eS2 hG => ?_)
  have h := g_let eS2 h
  refine lv_aload_n hx hb dX6_readLine_101 rfl (lv_at hl 0 rfl) ?_
  refine g_getR hc hG 31 32 flX6_18 rfl rfl rfl dX6_readLine_102 ?_
  obtain ⟨r4, S5, hm3, h⟩ := g_bd h
  refine g_callVv (As := []) hc hG (mX8_advance l E hm3) mlX6_71 mcX8_advance miX8_advance rfl rfl rfl rfl hl.1 rfl rfl ⟨by decide, by decide⟩ (Nat.le_of_ble_eq_true rfl) ⟨by decide, by decide⟩ dX6_readLine_105 rfl (fun H locs hG => ?_)
  refine lv_iload_n hx hb dX6_readLine_108 rfl (lv_at hl 2 rfl) ?_
  refine lv_bipush (v := (30 : Int32)) hx hb dX6_readLine_109 (by decide) ?_
  refine lv_icmp_ne (tgt := 121) hx hb dX6_readLine_111 (by decide) (fun c6 => ?_) (fun c6 => ?_)
  · have h := g_neg c6 h
    refine lv_aload_n hx hb dX6_readLine_121 rfl (lv_at hl 0 rfl) ?_
    refine lv_aload_n hx hb dX6_readLine_122 rfl (lv_at hl 3 rfl) ?_
    refine lv_iload_n hx hb dX6_readLine_123 rfl (lv_at hl 1 rfl) ?_
    obtain ⟨r8, S9, hm7, h⟩ := g_bd h
    refine g_callVv (As := [gR E a3, .int a1]) hc hG (mX6_readFormula l E hm7) mlX6_77 mcX6_readFormula miX6_readFormula rfl rfl rfl rfl hl.1 rfl rfl ⟨by decide, by decide⟩ (Nat.le_of_ble_eq_true rfl) ⟨by decide, by decide⟩ dX6_readLine_124 rfl (fun H locs hG => ?_)
    exact wX6_readLine_127 hc S9 _ _ _ (lv_sub hl [0] rfl) hG h
  · have h := g_pos c6 h
    refine lv_aload_n hx hb dX6_readLine_114 rfl (lv_at hl 0 rfl) ?_
    obtain ⟨r11, S12, hm10, h⟩ := g_bd h
    refine g_callVv (As := []) hc hG (mX6_readDoubts l E hm10) mlX6_74 mcX6_readDoubts miX6_readDoubts rfl rfl rfl rfl hl.1 rfl rfl ⟨by decide, by decide⟩ (Nat.le_of_ble_eq_true rfl) ⟨by decide, by decide⟩ dX6_readLine_115 rfl (fun H locs hG => ?_)
    refine lv_goto (tgt := 127) hx hb dX6_readLine_118 (by decide) ?_
    exact wX6_readLine_127 hc S12 _ _ _ (lv_sub hl [0] rfl) hG h
def fX6_readLine_55 (S : GS) (t0 : Nat) (a1 : Int32) (a2 : Int32) : Option (Unit × GS) := (if a2 = (30 : Int32) then (if gk (S.2.2 3) = 7 then (if (S.1 (S.2.2 3) 3) = 0 then (fX6_readLine_88 S a1 a2 t0) else (fX6_readLine_82 S)) else none) else (if gk t0 = 2 then (if (S.1 t0 0) = 0 then (fX6_readLine_88 S a1 a2 t0) else (fX6_readLine_82 S)) else none))
set_option maxRecDepth 100000 in
set_option maxHeartbeats 4000000 in
theorem wX6_readLine_55 {p : Program} {l : Launch} {e : Env} {s : State} {m : MethodId} {args : Array Value} {below : List Frame} {meth : Method} {c : Code} {E : GE} {res : (Unit × GS)} (hc : GM E p s m args meth c RX6 cX6_readLine 4 none) : ∀ (S : GS) (t0 : Nat) (a1 : Int32) (a2 : Int32) (H : Heap) (locs : List Loc) (ls : Array Slot), lv_has ls 4 [(0, gR E 31), (1, .int a1), (2, .int a2)] → GX E S H locs → fX6_readLine_55 S t0 a1 a2 = some res → W p l e rmX6_readLine s m args below meth c H locs 0 0 (gZ E below args s none res.2) (F0 m 55 ls [gR E t0]) := by
  obtain ⟨hx, hb, -, -, -, hown, hts, -, -⟩ := id hc
  intro S t0 a1 a2 H locs ls hl hG h
  unfold fX6_readLine_55 at h
  refine lv_astore_n (lv' := [(3, gR E t0), (0, gR E 31), (1, .int a1), (2, .int a2)]) hx hb dX6_readLine_55 rfl hl (by decide) rfl (fun ls hl => ?_)
  refine lv_iload_n hx hb dX6_readLine_56 rfl (lv_at hl 3 rfl) ?_
  refine lv_bipush (v := (30 : Int32)) hx hb dX6_readLine_57 (by decide) ?_
  refine lv_icmp_ne (tgt := 75) hx hb dX6_readLine_59 (by decide) (fun c1 => ?_) (fun c1 => ?_)
  · have h := g_neg c1 h
    refine lv_aload_n hx hb dX6_readLine_75 rfl (lv_at hl 0 rfl) ?_
    obtain ⟨hk2, h⟩ := g_if h
    refine g_getI hc hG t0 flX6_63 hk2 rfl dX6_readLine_76 ?_
    refine lv_if_eq (tgt := 88) hx hb dX6_readLine_79 (by decide) (fun c3 => ?_) (fun c3 => ?_)
    · have h := g_pos c3 h
      exact wX6_readLine_88 hc S a1 a2 t0 _ _ _ (lv_sub hl [1, 2, 3, 0] rfl) hG h
    · have h := g_neg c3 h
      exact wX6_readLine_82 hc S _ _ _ (lv_sub hl [1] rfl) hG h
  · have h := g_pos c1 h
    refine lv_aload_n hx hb dX6_readLine_62 rfl (lv_at hl 1 rfl) ?_
    refine g_getR hc hG 31 (S.2.2 3) flX6_26 rfl rfl rfl dX6_readLine_63 ?_
    obtain ⟨hk4, h⟩ := g_if h
    refine g_getI hc hG (S.2.2 3) flX6_59 hk4 rfl dX6_readLine_66 ?_
    refine lv_if_eq (tgt := 88) hx hb dX6_readLine_69 (by decide) (fun c5 => ?_) (fun c5 => ?_)
    · have h := g_pos c5 h
      exact wX6_readLine_88 hc S a1 a2 t0 _ _ _ (lv_sub hl [1, 2, 3, 0] rfl) hG h
    · have h := g_neg c5 h
      refine lv_goto (tgt := 82) hx hb dX6_readLine_72 (by decide) ?_
      exact wX6_readLine_82 hc S _ _ _ (lv_sub hl [1] rfl) hG h
def fX6_readLine_32 (S : GS) (a1 : Int32) (a2 : Int32) : Option (Unit × GS) := (if a2 = (28 : Int32) then (if gk (S.2.2 3) = 7 then (fX6_readLine_55 S (gr S.2.2 (S.2.2 3) 4) a1 a2) else none) else (if gk (S.2.2 3) = 7 then (fX6_readLine_55 S (gr S.2.2 (S.2.2 3) 5) a1 a2) else none))
set_option maxRecDepth 100000 in
set_option maxHeartbeats 4000000 in
theorem wX6_readLine_32 {p : Program} {l : Launch} {e : Env} {s : State} {m : MethodId} {args : Array Value} {below : List Frame} {meth : Method} {c : Code} {E : GE} {res : (Unit × GS)} (hc : GM E p s m args meth c RX6 cX6_readLine 4 none) : ∀ (S : GS) (a1 : Int32) (a2 : Int32) (H : Heap) (locs : List Loc) (ls : Array Slot), lv_has ls 4 [(0, gR E 31), (1, .int a1), (2, .int a2)] → GX E S H locs → fX6_readLine_32 S a1 a2 = some res → W p l e rmX6_readLine s m args below meth c H locs 0 0 (gZ E below args s none res.2) (F0 m 32 ls []) := by
  obtain ⟨hx, hb, -, -, -, hown, hts, -, -⟩ := id hc
  intro S a1 a2 H locs ls hl hG h
  unfold fX6_readLine_32 at h
  refine lv_iload_n hx hb dX6_readLine_32 rfl (lv_at hl 2 rfl) ?_
  refine lv_bipush (v := (28 : Int32)) hx hb dX6_readLine_33 (by decide) ?_
  refine lv_icmp_ne (tgt := 48) hx hb dX6_readLine_35 (by decide) (fun c1 => ?_) (fun c1 => ?_)
  · have h := g_neg c1 h
    refine lv_aload_n hx hb dX6_readLine_48 rfl (lv_at hl 0 rfl) ?_
    refine g_getR hc hG 31 (S.2.2 3) flX6_26 rfl rfl rfl dX6_readLine_49 ?_
    obtain ⟨hk2, h⟩ := g_if h
    refine g_getR hc hG (S.2.2 3) (gr S.2.2 (S.2.2 3) 5) flX6_56 hk2 rfl rfl dX6_readLine_52 ?_
    exact wX6_readLine_55 hc S (gr S.2.2 (S.2.2 3) 5) a1 a2 _ _ _ (lv_sub hl [0, 1, 2] rfl) hG h
  · have h := g_pos c1 h
    refine lv_aload_n hx hb dX6_readLine_38 rfl (lv_at hl 0 rfl) ?_
    refine g_getR hc hG 31 (S.2.2 3) flX6_26 rfl rfl rfl dX6_readLine_39 ?_
    obtain ⟨hk3, h⟩ := g_if h
    refine g_getR hc hG (S.2.2 3) (gr S.2.2 (S.2.2 3) 4) flX6_52 hk3 rfl rfl dX6_readLine_42 ?_
    refine lv_goto (tgt := 55) hx hb dX6_readLine_45 (by decide) ?_
    exact wX6_readLine_55 hc S (gr S.2.2 (S.2.2 3) 4) a1 a2 _ _ _ (lv_sub hl [0, 1, 2] rfl) hG h
def fX6_readLine (S : GS) (a1 : Int32) : Option (Unit × GS) := glet (S.1 32 3) fun v1 => (if v1 = (28 : Int32) then (fX6_readLine_32 S a1 v1) else (if v1 = (29 : Int32) then (fX6_readLine_32 S a1 v1) else (if v1 = (30 : Int32) then (fX6_readLine_32 S a1 v1) else gbd (fX6_fail S (1 : Int32)) fun r6 S7 => (some ((), S7)))))
set_option maxRecDepth 100000 in
set_option maxHeartbeats 4000000 in
theorem wX6_readLine_0 {p : Program} {l : Launch} {e : Env} {s : State} {m : MethodId} {args : Array Value} {below : List Frame} {meth : Method} {c : Code} {E : GE} {res : (Unit × GS)} (hc : GM E p s m args meth c RX6 cX6_readLine 4 none) : ∀ (S : GS) (a1 : Int32) (H : Heap) (locs : List Loc) (ls : Array Slot), lv_has ls 4 [(0, gR E 31), (1, .int a1)] → GX E S H locs → fX6_readLine S a1 = some res → W p l e rmX6_readLine s m args below meth c H locs 0 0 (gZ E below args s none res.2) (F0 m 0 ls []) := by
  obtain ⟨hx, hb, -, -, -, hown, hts, -, -⟩ := id hc
  intro S a1 H locs ls hl hG h
  unfold fX6_readLine at h
  refine lv_aload_n hx hb dX6_readLine_0 rfl (lv_at hl 0 rfl) ?_
  refine g_getR hc hG 31 32 flX6_18 rfl rfl rfl dX6_readLine_1 ?_
  refine g_getI hc hG 32 flX6_42 rfl rfl dX6_readLine_4 ?_
  refine lv_topi (fun v1 ev1 => ?_)
  have h := g_let ev1 h
  refine lv_istore_n (lv' := [(2, .int v1), (0, gR E 31), (1, .int a1)]) hx hb dX6_readLine_7 rfl hl (by decide) rfl (fun ls hl => ?_)
  refine lv_iload_n hx hb dX6_readLine_8 rfl (lv_at hl 0 rfl) ?_
  refine lv_bipush (v := (28 : Int32)) hx hb dX6_readLine_9 (by decide) ?_
  refine lv_icmp_eq (tgt := 32) hx hb dX6_readLine_11 (by decide) (fun c2 => ?_) (fun c2 => ?_)
  · have h := g_pos c2 h
    exact wX6_readLine_32 hc S a1 v1 _ _ _ (lv_sub hl [1, 2, 0] rfl) hG h
  · have h := g_neg c2 h
    refine lv_iload_n hx hb dX6_readLine_14 rfl (lv_at hl 0 rfl) ?_
    refine lv_bipush (v := (29 : Int32)) hx hb dX6_readLine_15 (by decide) ?_
    refine lv_icmp_eq (tgt := 32) hx hb dX6_readLine_17 (by decide) (fun c3 => ?_) (fun c3 => ?_)
    · have h := g_pos c3 h
      exact wX6_readLine_32 hc S a1 v1 _ _ _ (lv_sub hl [1, 2, 0] rfl) hG h
    · have h := g_neg c3 h
      refine lv_iload_n hx hb dX6_readLine_20 rfl (lv_at hl 0 rfl) ?_
      refine lv_bipush (v := (30 : Int32)) hx hb dX6_readLine_21 (by decide) ?_
      refine lv_icmp_eq (tgt := 32) hx hb dX6_readLine_23 (by decide) (fun c4 => ?_) (fun c4 => ?_)
      · have h := g_pos c4 h
        exact wX6_readLine_32 hc S a1 v1 _ _ _ (lv_sub hl [1, 2, 0] rfl) hG h
      · have h := g_neg c4 h
        refine lv_aload_n hx hb dX6_readLine_26 rfl (lv_at hl 1 rfl) ?_
        refine lv_iconst (v := (1 : Int32)) hx hb dX6_readLine_27 (by decide) ?_
        obtain ⟨r6, S7, hm5, h⟩ := g_bd h
        refine g_callVv (As := [.int (1 : Int32)]) hc hG (mX6_fail l E hm5) mlX6_49 mcX6_fail miX6_fail rfl rfl rfl rfl hl.1 rfl rfl ⟨by decide, by decide⟩ (Nat.le_of_ble_eq_true rfl) ⟨by decide, by decide⟩ dX6_readLine_28 rfl (fun H locs hG => ?_)
        exact g_vret hc hG dX6_readLine_31 h
theorem mX6_readLine (l : Launch) (E : GE) {S : GS} {a1 : Int32} {res : (Unit × GS)} (h : fX6_readLine S a1 = some res) : gMet l E yX6_readLine cX6_readLine 4 none rmX6_readLine [gR E 31, .int a1] S none res.2 :=
  g_met (by decide) (Nat.le_of_ble_eq_true rfl) rfl fun p e s m below meth c H ls hc hG hl => wX6_readLine_0 hc S a1 H [] ls hl hG h
abbrev rmX6_read : Room := { frames := 9, cells := 0, slots := 0, locals := 195 }
def fX6_read_34 : Nat → GS → Int32 → Int32 → Option (Unit × GS)
  | 0, _, _, _ => none
  | n + 1, S, a2, a4 => (if a2 < a4 then (some ((), S)) else (if (S.1 31 0) = 0 then (if (S.1 32 3) = (1 : Int32) then (some ((), S)) else gbd (fX6_readLine S a2) fun r5 S6 => glet (a4 + (1 : Int32)) fun v7 => (fX6_read_34 n S6 a2 v7)) else (some ((), S))))
set_option maxRecDepth 100000 in
set_option maxHeartbeats 4000000 in
theorem wX6_read_34 {p : Program} {l : Launch} {e : Env} {s : State} {m : MethodId} {args : Array Value} {below : List Frame} {meth : Method} {c : Code} {E : GE} {res : (Unit × GS)} (hc : GM E p s m args meth c RX6 cX6_read 5 none) : ∀ (n : Nat), ∀ (S : GS) (a2 : Int32) (a4 : Int32) (H : Heap) (locs : List Loc) (ls : Array Slot), lv_has ls 5 [(0, gR E 31), (2, .int a2), (4, .int a4)] → GX E S H locs → fX6_read_34 n S a2 a4 = some res → W p l e rmX6_read s m args below meth c H locs 0 0 (gZ E below args s none res.2) (F0 m 34 ls []) := by
  obtain ⟨hx, hb, -, -, -, hown, hts, -, -⟩ := id hc
  intro n
  induction n with
  | zero => intro S a2 a4 H locs ls hl hG h; cases h
  | succ n ih =>
    intro S a2 a4 H locs ls hl hG h
    rw [fX6_read_34] at h
    refine lv_iload hx hb dX6_read_34 (lv_at hl 2 rfl) ?_
    refine lv_iload_n hx hb dX6_read_36 rfl (lv_at hl 1 rfl) ?_
    refine lv_icmp_gt (tgt := 69) hx hb dX6_read_37 (by decide) (fun c1 => ?_) (fun c1 => ?_)
    · have h := g_pos c1 h
      exact g_vret hc hG dX6_read_69 h
    · have h := g_neg c1 h
      refine lv_aload_n hx hb dX6_read_40 rfl (lv_at hl 0 rfl) ?_
      refine g_getI hc hG 31 flX6_30 rfl rfl dX6_read_41 ?_
      refine lv_if_ne (tgt := 69) hx hb dX6_read_44 (by decide) (fun c2 => ?_) (fun c2 => ?_)
      · have h := g_neg c2 h
        exact g_vret hc hG dX6_read_69 h
      · have h := g_pos c2 h
        refine lv_aload_n hx hb dX6_read_47 rfl (lv_at hl 0 rfl) ?_
        refine g_getR hc hG 31 32 flX6_18 rfl rfl rfl dX6_read_48 ?_
        refine g_getI hc hG 32 flX6_42 rfl rfl dX6_read_51 ?_
        refine lv_iconst (v := (1 : Int32)) hx hb dX6_read_54 (by decide) ?_
        refine lv_icmp_eq (tgt := 69) hx hb dX6_read_55 (by decide) (fun c3 => ?_) (fun c3 => ?_)
        · have h := g_pos c3 h
          exact g_vret hc hG dX6_read_69 h
        · have h := g_neg c3 h
          refine lv_aload_n hx hb dX6_read_58 rfl (lv_at hl 0 rfl) ?_
          refine lv_iload_n hx hb dX6_read_59 rfl (lv_at hl 1 rfl) ?_
          obtain ⟨r5, S6, hm4, h⟩ := g_bd h
          refine g_callVv (As := [.int a2]) hc hG (mX6_readLine l E hm4) mlX6_45 mcX6_readLine miX6_readLine rfl rfl rfl rfl hl.1 rfl rfl ⟨by decide, by decide⟩ (Nat.le_of_ble_eq_true rfl) ⟨by decide, by decide⟩ dX6_read_60 rfl (fun H locs hG => ?_)
          obtain ⟨v7, ev7⟩ : ∃ y : Int32, y = (a4 + (1 : Int32)) := ⟨_, rfl⟩
          have h := g_let ev7 h
          refine lv_iinc (v := v7) (lv' := [(4, .int v7), (0, gR E 31), (2, .int a2)]) hx hb dX6_read_63 hl (k := 2) rfl (by rw [ev7]; rfl) (by decide) rfl (fun ls hl => ?_)
          refine lv_goto (tgt := 34) hx hb dX6_read_66 (by decide) ?_
          exact ih S6 a2 v7 _ _ _ (lv_sub hl [1, 2, 0] rfl) hG h
def fX6_read (S : GS) (a2 : Int32) (a3 : Nat) : Option (Unit × GS) := glet (gsi S 31 0 (0 : Int32)) fun S1 => glet (gsi S1 31 1 (-1 : Int32)) fun S2 => glet (gsq S2 3 a3) fun S3 => (if gk (S3.2.2 3) = 7 then gbd (fX7_clear S3 (S3.2.2 3)) fun r6 S7 => gbd (fX8_start S7 a2) fun r9 S10 => glet (0 : Int32) fun v11 => (fX6_read_34 FU S10 a2 v11) else none)
set_option maxRecDepth 100000 in
set_option maxHeartbeats 4000000 in
theorem wX6_read_0 {p : Program} {l : Launch} {e : Env} {s : State} {m : MethodId} {args : Array Value} {below : List Frame} {meth : Method} {c : Code} {E : GE} {res : (Unit × GS)} (hc : GM E p s m args meth c RX6 cX6_read 5 none) : ∀ (S : GS) (a2 : Int32) (a3 : Nat) (H : Heap) (locs : List Loc) (ls : Array Slot), lv_has ls 5 [(0, gR E 31), (1, gR E 1), (2, .int a2), (3, gR E a3)] → GX E S H locs → fX6_read S a2 a3 = some res → W p l e rmX6_read s m args below meth c H locs 0 0 (gZ E below args s none res.2) (F0 m 0 ls []) := by
  obtain ⟨hx, hb, -, -, -, hown, hts, -, -⟩ := id hc
  intro S a2 a3 H locs ls hl hG h
  unfold fX6_read at h
  refine lv_aload_n hx hb dX6_read_0 rfl (lv_at hl 0 rfl) ?_
  refine lv_iconst (v := (0 : Int32)) hx hb dX6_read_1 (by decide) ?_
  refine g_putI hc hG 31 fpX6_30 rfl rfl rfl rfl dX6_read_2 (fun S1 H locs eS1 hG => ?_)
  have h := g_let eS1 h
  refine lv_aload_n hx hb dX6_read_5 rfl (lv_at hl 0 rfl) ?_
  refine lv_iconst (v := (-1 : Int32)) hx hb dX6_read_6 (by decide) ?_
  refine g_putI hc hG 31 fpX6_9 rfl rfl rfl rfl dX6_read_7 (fun S2 H locs eS2 hG => ?_)
  have h := g_let eS2 h
  refine lv_aload_n hx hb dX6_read_10 rfl (lv_at hl 0 rfl) ?_
  refine lv_aload_n hx hb dX6_read_11 rfl (lv_at hl 3 rfl) ?_
  refine g_putR hc hG 31 3 a3 fpX6_26 (fun _ => rfl) (fun _ => rfl) rfl rfl gq3 dX6_read_12 (fun S3 H locs eS3 hG => ?_)
  have h := g_let eS3 h
  refine lv_aload_n hx hb dX6_read_15 rfl (lv_at hl 0 rfl) ?_
  refine g_getR hc hG 31 (S3.2.2 3) flX6_26 rfl rfl rfl dX6_read_16 ?_
  obtain ⟨hk4, h⟩ := g_if h
  obtain ⟨r6, S7, hm5, h⟩ := g_bd h
  refine g_callVv (As := []) hc hG (mX7_clear l E hm5) mlX6_33 mcX7_clear miX7_clear hk4 rfl rfl rfl hl.1 rfl rfl ⟨by decide, by decide⟩ (Nat.le_of_ble_eq_true rfl) ⟨by decide, by decide⟩ dX6_read_19 rfl (fun H locs hG => ?_)
  refine lv_aload_n hx hb dX6_read_22 rfl (lv_at hl 0 rfl) ?_
  refine g_getR hc hG 31 32 flX6_18 rfl rfl rfl dX6_read_23 ?_
  refine lv_aload_n hx hb dX6_read_26 rfl (lv_at hl 1 rfl) ?_
  refine lv_iload_n hx hb dX6_read_27 rfl (lv_at hl 2 rfl) ?_
  obtain ⟨r9, S10, hm8, h⟩ := g_bd h
  refine g_callVv (As := [gR E 1, .int a2]) hc hG (mX8_start l E hm8) mlX6_38 mcX8_start miX8_start rfl rfl rfl rfl hl.1 rfl rfl ⟨by decide, by decide⟩ (Nat.le_of_ble_eq_true rfl) ⟨by decide, by decide⟩ dX6_read_28 rfl (fun H locs hG => ?_)
  refine lv_iconst (v := (0 : Int32)) hx hb dX6_read_31 (by decide) ?_
  refine lv_topi (fun v11 ev11 => ?_)
  have h := g_let ev11 h
  refine lv_istore (lv' := [(4, .int v11), (0, gR E 31), (1, gR E 1), (2, .int a2), (3, gR E a3)]) hx hb dX6_read_32 hl (by decide) rfl (fun ls hl => ?_)
  exact wX6_read_34 hc FU S10 a2 v11 _ _ _ (lv_sub hl [1, 3, 0] rfl) hG h
theorem mX6_read (l : Launch) (E : GE) {S : GS} {a2 : Int32} {a3 : Nat} {res : (Unit × GS)} (h : fX6_read S a2 a3 = some res) : gMet l E yX6_read cX6_read 5 none rmX6_read [gR E 31, gR E 1, .int a2, gR E a3] S none res.2 :=
  g_met (by decide) (Nat.le_of_ble_eq_true rfl) rfl fun p e s m below meth c H ls hc hG hl => wX6_read_0 hc S a2 a3 H [] ls hl hG h
abbrev rmX9_speaks : Room := { frames := 0, cells := 0, slots := 0, locals := 0 }
def fX9_speaks (S : GS) (a1 : Int32) (a2 : Int32) (a3 : Int32) : Option Int32 := (if gib a1 120 = true then (if gib (S.1 19 a1.toNatClampNeg) 12 = true then (if (S.1 37 ((S.1 19 a1.toNatClampNeg)).toNatClampNeg) = a2 then (if ((S.1 20 a1.toNatClampNeg) &&& (a3 ^^^ (-1 : Int32))) = 0 then (some (1 : Int32)) else (some (0 : Int32))) else (some (0 : Int32))) else none) else none)
set_option maxRecDepth 100000 in
set_option maxHeartbeats 4000000 in
theorem wX9_speaks_0 {p : Program} {l : Launch} {e : Env} {s : State} {m : MethodId} {args : Array Value} {below : List Frame} {meth : Method} {c : Code} {E : GE} {res : Int32} (hc : GM E p s m args meth c RX9 cX9_speaks 4 (some .boolean)) : ∀ (S : GS) (a1 : Int32) (a2 : Int32) (a3 : Int32) (H : Heap) (locs : List Loc) (ls : Array Slot), lv_has ls 4 [(0, gR E 35), (1, .int a1), (2, .int a2), (3, .int a3)] → GX E S H locs → fX9_speaks S a1 a2 a3 = some res → W p l e rmX9_speaks s m args below meth c H locs 0 0 (gZ E below args s (some (.int res)) S) (F0 m 0 ls []) := by
  obtain ⟨hx, hb, -, -, -, hown, hts, -, -⟩ := id hc
  intro S a1 a2 a3 H locs ls hl hG h
  unfold fX9_speaks at h
  refine lv_aload_n hx hb dX9_speaks_0 rfl (lv_at hl 0 rfl) ?_
  refine g_getR hc hG 35 36 flX9_40 rfl rfl rfl dX9_speaks_1 ?_
  refine g_getR hc hG 36 37 flX9_154 rfl rfl rfl dX9_speaks_4 ?_
  refine lv_aload_n hx hb dX9_speaks_7 rfl (lv_at hl 0 rfl) ?_
  refine g_getR hc hG 35 14 flX9_39 rfl rfl rfl dX9_speaks_8 ?_
  refine g_getR hc hG 14 19 flX9_157 rfl rfl rfl dX9_speaks_11 ?_
  refine lv_iload_n hx hb dX9_speaks_14 rfl (lv_at hl 1 rfl) ?_
  obtain ⟨hi1, h⟩ := g_if h
  refine g_iald hc hG 19 120 (a1.toNatClampNeg) rfl rfl hi1 rfl dX9_speaks_15 ?_
  obtain ⟨hi2, h⟩ := g_if h
  refine g_iald hc hG 37 12 (((S.1 19 a1.toNatClampNeg)).toNatClampNeg) rfl rfl hi2 rfl dX9_speaks_16 ?_
  refine lv_iload_n hx hb dX9_speaks_17 rfl (lv_at hl 2 rfl) ?_
  refine lv_icmp_ne (tgt := 41) hx hb dX9_speaks_18 (by decide) (fun c3 => ?_) (fun c3 => ?_)
  · have h := g_neg c3 h
    refine lv_iconst (v := (0 : Int32)) hx hb dX9_speaks_41 (by decide) ?_
    exact g_zretp hc hG (Or.inl rfl) dX9_speaks_42 h
  · have h := g_pos c3 h
    refine lv_aload_n hx hb dX9_speaks_21 rfl (lv_at hl 0 rfl) ?_
    refine g_getR hc hG 35 14 flX9_39 rfl rfl rfl dX9_speaks_22 ?_
    refine g_getR hc hG 14 20 flX9_160 rfl rfl rfl dX9_speaks_25 ?_
    refine lv_iload_n hx hb dX9_speaks_28 rfl (lv_at hl 1 rfl) ?_
    refine g_iald hc hG 20 120 (a1.toNatClampNeg) rfl rfl hi1 rfl dX9_speaks_29 ?_
    refine lv_iload_n hx hb dX9_speaks_30 rfl (lv_at hl 3 rfl) ?_
    refine lv_iconst (v := (-1 : Int32)) hx hb dX9_speaks_31 (by decide) ?_
    refine lv_ixor hx hb dX9_speaks_32 ?_
    refine lv_iand hx hb dX9_speaks_33 ?_
    refine lv_if_ne (tgt := 41) hx hb dX9_speaks_34 (by decide) (fun c4 => ?_) (fun c4 => ?_)
    · have h := g_neg c4 h
      refine lv_iconst (v := (0 : Int32)) hx hb dX9_speaks_41 (by decide) ?_
      exact g_zretp hc hG (Or.inl rfl) dX9_speaks_42 h
    · have h := g_pos c4 h
      refine lv_iconst (v := (1 : Int32)) hx hb dX9_speaks_37 (by decide) ?_
      refine lv_goto (tgt := 42) hx hb dX9_speaks_38 (by decide) ?_
      exact g_zretp hc hG (Or.inr rfl) dX9_speaks_42 h
theorem mX9_speaks (l : Launch) (E : GE) {S : GS} {a1 : Int32} {a2 : Int32} {a3 : Int32} {res : Int32} (h : fX9_speaks S a1 a2 a3 = some res) : gMet l E yX9_speaks cX9_speaks 4 (some .boolean) rmX9_speaks [gR E 35, .int a1, .int a2, .int a3] S (some (.int res)) S :=
  g_met (by decide) (Nat.le_of_ble_eq_true rfl) rfl fun p e s m below meth c H ls hc hG hl => wX9_speaks_0 hc S a1 a2 a3 H [] ls hl hG h
abbrev rmJ6_bitCount_0f7a4 : Room := { frames := 0, cells := 0, slots := 0, locals := 0 }
def fJ6_bitCount_0f7a4 (S : GS) (a0 : Int32) : Option Int32 := glet (a0 - ((gush a0 (1 : Int32)) &&& (1431655765 : Int32))) fun v1 => glet ((v1 &&& (858993459 : Int32)) + ((gush v1 (2 : Int32)) &&& (858993459 : Int32))) fun v2 => glet ((v2 + (gush v2 (4 : Int32))) &&& (252645135 : Int32)) fun v3 => glet (v3 + (gush v3 (8 : Int32))) fun v4 => glet (v4 + (gush v4 (16 : Int32))) fun v5 => (some (v5 &&& (63 : Int32)))
set_option maxRecDepth 100000 in
set_option maxHeartbeats 4000000 in
theorem wJ6_bitCount_0f7a4_0 {p : Program} {l : Launch} {e : Env} {s : State} {m : MethodId} {args : Array Value} {below : List Frame} {meth : Method} {c : Code} {E : GE} {res : Int32} (hc : GM E p s m args meth c RJ6 cJ6_bitCount_0f7a4 1 (some .int)) : ∀ (S : GS) (a0 : Int32) (H : Heap) (locs : List Loc) (ls : Array Slot), lv_has ls 1 [(0, .int a0)] → GX E S H locs → fJ6_bitCount_0f7a4 S a0 = some res → W p l e rmJ6_bitCount_0f7a4 s m args below meth c H locs 0 0 (gZ E below args s (some (.int res)) S) (F0 m 0 ls []) := by
  obtain ⟨hx, hb, -, -, -, hown, hts, -, -⟩ := id hc
  intro S a0 H locs ls hl hG h
  unfold fJ6_bitCount_0f7a4 at h
  refine lv_iload_n hx hb dJ6_bitCount_0f7a4_0 rfl (lv_at hl 0 rfl) ?_
  refine lv_iload_n hx hb dJ6_bitCount_0f7a4_1 rfl (lv_at hl 0 rfl) ?_
  refine lv_iconst (v := (1 : Int32)) hx hb dJ6_bitCount_0f7a4_2 (by decide) ?_
  refine lv_iushr (v := (gush a0 (1 : Int32))) hx hb dJ6_bitCount_0f7a4_3 rfl ?_
  refine lv_ldcw (v := (1431655765 : Int32)) hx hb hown (hts _ kcJ6_265) dJ6_bitCount_0f7a4_4 ?_
  refine lv_iand hx hb dJ6_bitCount_0f7a4_7 ?_
  refine lv_isub hx hb dJ6_bitCount_0f7a4_8 ?_
  refine lv_topi (fun v1 ev1 => ?_)
  have h := g_let ev1 h
  refine lv_istore_n (lv' := [(0, .int v1)]) hx hb dJ6_bitCount_0f7a4_9 rfl hl (by decide) rfl (fun ls hl => ?_)
  refine lv_iload_n hx hb dJ6_bitCount_0f7a4_10 rfl (lv_at hl 0 rfl) ?_
  refine lv_ldcw (v := (858993459 : Int32)) hx hb hown (hts _ kcJ6_266) dJ6_bitCount_0f7a4_11 ?_
  refine lv_iand hx hb dJ6_bitCount_0f7a4_14 ?_
  refine lv_iload_n hx hb dJ6_bitCount_0f7a4_15 rfl (lv_at hl 0 rfl) ?_
  refine lv_iconst (v := (2 : Int32)) hx hb dJ6_bitCount_0f7a4_16 (by decide) ?_
  refine lv_iushr (v := (gush v1 (2 : Int32))) hx hb dJ6_bitCount_0f7a4_17 rfl ?_
  refine lv_ldcw (v := (858993459 : Int32)) hx hb hown (hts _ kcJ6_266) dJ6_bitCount_0f7a4_18 ?_
  refine lv_iand hx hb dJ6_bitCount_0f7a4_21 ?_
  refine lv_iadd hx hb dJ6_bitCount_0f7a4_22 ?_
  refine lv_topi (fun v2 ev2 => ?_)
  have h := g_let ev2 h
  refine lv_istore_n (lv' := [(0, .int v2)]) hx hb dJ6_bitCount_0f7a4_23 rfl hl (by decide) rfl (fun ls hl => ?_)
  refine lv_iload_n hx hb dJ6_bitCount_0f7a4_24 rfl (lv_at hl 0 rfl) ?_
  refine lv_iload_n hx hb dJ6_bitCount_0f7a4_25 rfl (lv_at hl 0 rfl) ?_
  refine lv_iconst (v := (4 : Int32)) hx hb dJ6_bitCount_0f7a4_26 (by decide) ?_
  refine lv_iushr (v := (gush v2 (4 : Int32))) hx hb dJ6_bitCount_0f7a4_27 rfl ?_
  refine lv_iadd hx hb dJ6_bitCount_0f7a4_28 ?_
  refine lv_ldcw (v := (252645135 : Int32)) hx hb hown (hts _ kcJ6_267) dJ6_bitCount_0f7a4_29 ?_
  refine lv_iand hx hb dJ6_bitCount_0f7a4_32 ?_
  refine lv_topi (fun v3 ev3 => ?_)
  have h := g_let ev3 h
  refine lv_istore_n (lv' := [(0, .int v3)]) hx hb dJ6_bitCount_0f7a4_33 rfl hl (by decide) rfl (fun ls hl => ?_)
  refine lv_iload_n hx hb dJ6_bitCount_0f7a4_34 rfl (lv_at hl 0 rfl) ?_
  refine lv_iload_n hx hb dJ6_bitCount_0f7a4_35 rfl (lv_at hl 0 rfl) ?_
  refine lv_bipush (v := (8 : Int32)) hx hb dJ6_bitCount_0f7a4_36 (by decide) ?_
  refine lv_iushr (v := (gush v3 (8 : Int32))) hx hb dJ6_bitCount_0f7a4_38 rfl ?_
  refine lv_iadd hx hb dJ6_bitCount_0f7a4_39 ?_
  refine lv_topi (fun v4 ev4 => ?_)
  have h := g_let ev4 h
  refine lv_istore_n (lv' := [(0, .int v4)]) hx hb dJ6_bitCount_0f7a4_40 rfl hl (by decide) rfl (fun ls hl => ?_)
  refine lv_iload_n hx hb dJ6_bitCount_0f7a4_41 rfl (lv_at hl 0 rfl) ?_
  refine lv_iload_n hx hb dJ6_bitCount_0f7a4_42 rfl (lv_at hl 0 rfl) ?_
  refine lv_bipush (v := (16 : Int32)) hx hb dJ6_bitCount_0f7a4_43 (by decide) ?_
  refine lv_iushr (v := (gush v4 (16 : Int32))) hx hb dJ6_bitCount_0f7a4_45 rfl ?_
  refine lv_iadd hx hb dJ6_bitCount_0f7a4_46 ?_
  refine lv_topi (fun v5 ev5 => ?_)
  have h := g_let ev5 h
  refine lv_istore_n (lv' := [(0, .int v5)]) hx hb dJ6_bitCount_0f7a4_47 rfl hl (by decide) rfl (fun ls hl => ?_)
  refine lv_iload_n hx hb dJ6_bitCount_0f7a4_48 rfl (lv_at hl 0 rfl) ?_
  refine lv_bipush (v := (63 : Int32)) hx hb dJ6_bitCount_0f7a4_49 (by decide) ?_
  refine lv_iand hx hb dJ6_bitCount_0f7a4_51 ?_
  exact g_iretp hc hG dJ6_bitCount_0f7a4_52 h
theorem mJ6_bitCount_0f7a4 (l : Launch) (E : GE) {S : GS} {a0 : Int32} {res : Int32} (h : fJ6_bitCount_0f7a4 S a0 = some res) : gMet l E yJ6_bitCount_0f7a4 cJ6_bitCount_0f7a4 1 (some .int) rmJ6_bitCount_0f7a4 [.int a0] S (some (.int res)) S :=
  g_met (by decide) (Nat.le_of_ble_eq_true rfl) rfl fun p e s m below meth c H ls hc hG hl => wJ6_bitCount_0f7a4_0 hc S a0 H [] ls hl hG h
abbrev rmX9_votesFor : Room := { frames := 1, cells := 0, slots := 0, locals := 23 }
def fX9_votesFor_14 : Nat → GS → Int32 → Int32 → Int32 → Int32 → Int32 → Option Int32
  | 0, _, _, _, _, _, _ => none
  | n + 1, S, a1, a2, a3, a4, a5 => (if gib a1 32 = true then (if (S.1 45 a1.toNatClampNeg) ≤ a5 then gbv (fJ6_bitCount_0f7a4 S a4) fun r4 => (some r4) else (if gib a5 120 = true then glet (S.1 43 a5.toNatClampNeg) fun v6 => (if gib v6 120 = true then (if (S.1 15 v6.toNatClampNeg) = 0 then gbv (fX9_speaks S v6 a2 a3) fun r11 => (if r11 = 0 then glet (a5 + (1 : Int32)) fun v13 => (fX9_votesFor_14 n S a1 a2 a3 a4 v13) else glet (a4 ||| ((1 : Int32) <<< ((S.1 18 v6.toNatClampNeg) &&& 31))) fun v14 => glet (a5 + (1 : Int32)) fun v15 => (fX9_votesFor_14 n S a1 a2 a3 v14 v15)) else glet (a5 + (1 : Int32)) fun v9 => (fX9_votesFor_14 n S a1 a2 a3 a4 v9)) else none) else none)) else none)
set_option maxRecDepth 100000 in
set_option maxHeartbeats 4000000 in
theorem wX9_votesFor_14 {p : Program} {l : Launch} {e : Env} {s : State} {m : MethodId} {args : Array Value} {below : List Frame} {meth : Method} {c : Code} {E : GE} {res : Int32} (hc : GM E p s m args meth c RX9 cX9_votesFor 7 (some .int)) : ∀ (n : Nat), ∀ (S : GS) (a1 : Int32) (a2 : Int32) (a3 : Int32) (a4 : Int32) (a5 : Int32) (H : Heap) (locs : List Loc) (ls : Array Slot), lv_has ls 7 [(0, gR E 35), (1, .int a1), (2, .int a2), (3, .int a3), (4, .int a4), (5, .int a5)] → GX E S H locs → fX9_votesFor_14 n S a1 a2 a3 a4 a5 = some res → W p l e rmX9_votesFor s m args below meth c H locs 0 0 (gZ E below args s (some (.int res)) S) (F0 m 14 ls []) := by
  obtain ⟨hx, hb, -, -, -, hown, hts, -, -⟩ := id hc
  intro n
  induction n with
  | zero => intro S a1 a2 a3 a4 a5 H locs ls hl hG h; cases h
  | succ n ih =>
    intro S a1 a2 a3 a4 a5 H locs ls hl hG h
    rw [fX9_votesFor_14] at h
    refine lv_iload hx hb dX9_votesFor_14 (lv_at hl 5 rfl) ?_
    refine lv_aload_n hx hb dX9_votesFor_16 rfl (lv_at hl 0 rfl) ?_
    refine g_getR hc hG 35 36 flX9_40 rfl rfl rfl dX9_votesFor_17 ?_
    refine g_getR hc hG 36 45 flX9_126 rfl rfl rfl dX9_votesFor_20 ?_
    refine lv_iload_n hx hb dX9_votesFor_23 rfl (lv_at hl 1 rfl) ?_
    obtain ⟨hi1, h⟩ := g_if h
    refine g_iald hc hG 45 32 (a1.toNatClampNeg) rfl rfl hi1 rfl dX9_votesFor_24 ?_
    refine lv_icmp_ge (tgt := 87) hx hb dX9_votesFor_25 (by decide) (fun c2 => ?_) (fun c2 => ?_)
    · have h := g_pos c2 h
      refine lv_iload hx hb dX9_votesFor_87 (lv_at hl 4 rfl) ?_
      obtain ⟨r4, hm3, h⟩ := g_bv h
      refine g_callSi (As := [.int a4]) hc hG (mJ6_bitCount_0f7a4 l E hm3) mlX9_143 mcJ6_bitCount_0f7a4 msJ6_bitCount_0f7a4 rfl hl.1 rfl rfl ⟨by decide, by decide⟩ (Nat.le_of_ble_eq_true rfl) ⟨by decide, by decide⟩ dX9_votesFor_89 rfl (fun H locs hG => ?_)
      exact g_iretp hc hG dX9_votesFor_92 h
    · have h := g_neg c2 h
      refine lv_aload_n hx hb dX9_votesFor_28 rfl (lv_at hl 0 rfl) ?_
      refine g_getR hc hG 35 36 flX9_40 rfl rfl rfl dX9_votesFor_29 ?_
      refine g_getR hc hG 36 43 flX9_129 rfl rfl rfl dX9_votesFor_32 ?_
      refine lv_iload hx hb dX9_votesFor_35 (lv_at hl 5 rfl) ?_
      obtain ⟨hi5, h⟩ := g_if h
      refine g_iald hc hG 43 120 (a5.toNatClampNeg) rfl rfl hi5 rfl dX9_votesFor_37 ?_
      refine lv_topi (fun v6 ev6 => ?_)
      have h := g_let ev6 h
      refine lv_istore (lv' := [(6, .int v6), (0, gR E 35), (1, .int a1), (2, .int a2), (3, .int a3), (4, .int a4), (5, .int a5)]) hx hb dX9_votesFor_38 hl (by decide) rfl (fun ls hl => ?_)
      refine lv_aload_n hx hb dX9_votesFor_40 rfl (lv_at hl 1 rfl) ?_
      refine g_getR hc hG 35 14 flX9_39 rfl rfl rfl dX9_votesFor_41 ?_
      refine g_getR hc hG 14 15 flX9_132 rfl rfl rfl dX9_votesFor_44 ?_
      refine lv_iload hx hb dX9_votesFor_47 (lv_at hl 0 rfl) ?_
      obtain ⟨hi7, h⟩ := g_if h
      refine g_iald hc hG 15 120 (v6.toNatClampNeg) rfl rfl hi7 rfl dX9_votesFor_49 ?_
      refine lv_if_ne (tgt := 81) hx hb dX9_votesFor_50 (by decide) (fun c8 => ?_) (fun c8 => ?_)
      · have h := g_neg c8 h
        obtain ⟨v9, ev9⟩ : ∃ y : Int32, y = (a5 + (1 : Int32)) := ⟨_, rfl⟩
        have h := g_let ev9 h
        refine lv_iinc (v := v9) (lv' := [(5, .int v9), (6, .int v6), (0, gR E 35), (1, .int a1), (2, .int a2), (3, .int a3), (4, .int a4)]) hx hb dX9_votesFor_81 hl (k := 6) rfl (by rw [ev9]; rfl) (by decide) rfl (fun ls hl => ?_)
        refine lv_goto (tgt := 14) hx hb dX9_votesFor_84 (by decide) ?_
        exact ih S a1 a2 a3 a4 v9 _ _ _ (lv_sub hl [2, 3, 4, 5, 6, 0] rfl) hG h
      · have h := g_pos c8 h
        refine lv_aload_n hx hb dX9_votesFor_53 rfl (lv_at hl 1 rfl) ?_
        refine lv_iload hx hb dX9_votesFor_54 (lv_at hl 0 rfl) ?_
        refine lv_iload_n hx hb dX9_votesFor_56 rfl (lv_at hl 3 rfl) ?_
        refine lv_iload_n hx hb dX9_votesFor_57 rfl (lv_at hl 4 rfl) ?_
        obtain ⟨r11, hm10, h⟩ := g_bv h
        refine g_callVi (As := [.int v6, .int a2, .int a3]) hc hG (mX9_speaks l E hm10) mlX9_137 mcX9_speaks miX9_speaks rfl rfl rfl rfl hl.1 rfl rfl ⟨by decide, by decide⟩ (Nat.le_of_ble_eq_true rfl) ⟨by decide, by decide⟩ dX9_votesFor_58 rfl (fun H locs hG => ?_)
        refine lv_if_eq (tgt := 81) hx hb dX9_votesFor_61 (by decide) (fun c12 => ?_) (fun c12 => ?_)
        · have h := g_pos c12 h
          obtain ⟨v13, ev13⟩ : ∃ y : Int32, y = (a5 + (1 : Int32)) := ⟨_, rfl⟩
          have h := g_let ev13 h
          refine lv_iinc (v := v13) (lv' := [(5, .int v13), (6, .int v6), (0, gR E 35), (1, .int a1), (2, .int a2), (3, .int a3), (4, .int a4)]) hx hb dX9_votesFor_81 hl (k := 6) rfl (by rw [ev13]; rfl) (by decide) rfl (fun ls hl => ?_)
          refine lv_goto (tgt := 14) hx hb dX9_votesFor_84 (by decide) ?_
          exact ih S a1 a2 a3 a4 v13 _ _ _ (lv_sub hl [2, 3, 4, 5, 6, 0] rfl) hG h
        · have h := g_neg c12 h
          refine lv_iload hx hb dX9_votesFor_64 (lv_at hl 5 rfl) ?_
          refine lv_iconst (v := (1 : Int32)) hx hb dX9_votesFor_66 (by decide) ?_
          refine lv_aload_n hx hb dX9_votesFor_67 rfl (lv_at hl 1 rfl) ?_
          refine g_getR hc hG 35 14 flX9_39 rfl rfl rfl dX9_votesFor_68 ?_
          refine g_getR hc hG 14 18 flX9_140 rfl rfl rfl dX9_votesFor_71 ?_
          refine lv_iload hx hb dX9_votesFor_74 (lv_at hl 0 rfl) ?_
          refine g_iald hc hG 18 120 (v6.toNatClampNeg) rfl rfl hi7 rfl dX9_votesFor_76 ?_
          refine lv_ishl hx hb dX9_votesFor_77 ?_
          refine lv_ior hx hb dX9_votesFor_78 ?_
          refine lv_topi (fun v14 ev14 => ?_)
          have h := g_let ev14 h
          refine lv_istore (lv' := [(4, .int v14), (6, .int v6), (0, gR E 35), (1, .int a1), (2, .int a2), (3, .int a3), (5, .int a5)]) hx hb dX9_votesFor_79 hl (by decide) rfl (fun ls hl => ?_)
          obtain ⟨v15, ev15⟩ : ∃ y : Int32, y = (a5 + (1 : Int32)) := ⟨_, rfl⟩
          have h := g_let ev15 h
          refine lv_iinc (v := v15) (lv' := [(5, .int v15), (4, .int v14), (6, .int v6), (0, gR E 35), (1, .int a1), (2, .int a2), (3, .int a3)]) hx hb dX9_votesFor_81 hl (k := 6) rfl (by rw [ev15]; rfl) (by decide) rfl (fun ls hl => ?_)
          refine lv_goto (tgt := 14) hx hb dX9_votesFor_84 (by decide) ?_
          exact ih S a1 a2 a3 v14 v15 _ _ _ (lv_sub hl [3, 4, 5, 6, 1, 0] rfl) hG h
def fX9_votesFor (S : GS) (a1 : Int32) (a2 : Int32) (a3 : Int32) : Option Int32 := glet (0 : Int32) fun v1 => (if gib a1 32 = true then glet (S.1 44 a1.toNatClampNeg) fun v3 => (fX9_votesFor_14 FU S a1 a2 a3 v1 v3) else none)
set_option maxRecDepth 100000 in
set_option maxHeartbeats 4000000 in
theorem wX9_votesFor_0 {p : Program} {l : Launch} {e : Env} {s : State} {m : MethodId} {args : Array Value} {below : List Frame} {meth : Method} {c : Code} {E : GE} {res : Int32} (hc : GM E p s m args meth c RX9 cX9_votesFor 7 (some .int)) : ∀ (S : GS) (a1 : Int32) (a2 : Int32) (a3 : Int32) (H : Heap) (locs : List Loc) (ls : Array Slot), lv_has ls 7 [(0, gR E 35), (1, .int a1), (2, .int a2), (3, .int a3)] → GX E S H locs → fX9_votesFor S a1 a2 a3 = some res → W p l e rmX9_votesFor s m args below meth c H locs 0 0 (gZ E below args s (some (.int res)) S) (F0 m 0 ls []) := by
  obtain ⟨hx, hb, -, -, -, hown, hts, -, -⟩ := id hc
  intro S a1 a2 a3 H locs ls hl hG h
  unfold fX9_votesFor at h
  refine lv_iconst (v := (0 : Int32)) hx hb dX9_votesFor_0 (by decide) ?_
  refine lv_topi (fun v1 ev1 => ?_)
  have h := g_let ev1 h
  refine lv_istore (lv' := [(4, .int v1), (0, gR E 35), (1, .int a1), (2, .int a2), (3, .int a3)]) hx hb dX9_votesFor_1 hl (by decide) rfl (fun ls hl => ?_)
  refine lv_aload_n hx hb dX9_votesFor_3 rfl (lv_at hl 1 rfl) ?_
  refine g_getR hc hG 35 36 flX9_40 rfl rfl rfl dX9_votesFor_4 ?_
  refine g_getR hc hG 36 44 flX9_123 rfl rfl rfl dX9_votesFor_7 ?_
  refine lv_iload_n hx hb dX9_votesFor_10 rfl (lv_at hl 2 rfl) ?_
  obtain ⟨hi2, h⟩ := g_if h
  refine g_iald hc hG 44 32 (a1.toNatClampNeg) rfl rfl hi2 rfl dX9_votesFor_11 ?_
  refine lv_topi (fun v3 ev3 => ?_)
  have h := g_let ev3 h
  refine lv_istore (lv' := [(5, .int v3), (4, .int v1), (0, gR E 35), (1, .int a1), (2, .int a2), (3, .int a3)]) hx hb dX9_votesFor_12 hl (by decide) rfl (fun ls hl => ?_)
  exact wX9_votesFor_14 hc FU S a1 a2 a3 v1 v3 _ _ _ (lv_sub hl [2, 3, 4, 5, 1, 0] rfl) hG h
theorem mX9_votesFor (l : Launch) (E : GE) {S : GS} {a1 : Int32} {a2 : Int32} {a3 : Int32} {res : Int32} (h : fX9_votesFor S a1 a2 a3 = some res) : gMet l E yX9_votesFor cX9_votesFor 7 (some .int) rmX9_votesFor [gR E 35, .int a1, .int a2, .int a3] S (some (.int res)) S :=
  g_met (by decide) (Nat.le_of_ble_eq_true rfl) rfl fun p e s m below meth c H ls hc hG hl => wX9_votesFor_0 hc S a1 a2 a3 H [] ls hl hG h

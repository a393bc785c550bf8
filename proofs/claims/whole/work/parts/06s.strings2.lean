abbrev rmJ0_coder_7d493 : Room := { frames := 0, cells := 0, slots := 0, locals := 0 }
abbrev rmJ0_isLatin1_aae02 : Room := { frames := 0, cells := 0, slots := 0, locals := 0 }
abbrev rmJ0_length_8abf5 : Room := { frames := 1, cells := 0, slots := 0, locals := 20 }
abbrev rmJ3_checkIndex_8e157 : Room := { frames := 0, cells := 0, slots := 0, locals := 0 }
abbrev rmJ0_checkIndex_df160 : Room := { frames := 1, cells := 0, slots := 0, locals := 22 }
abbrev rmJ1_charAt_3b067 : Room := { frames := 2, cells := 0, slots := 0, locals := 43 }
abbrev rmJ0_charAt_5068e : Room := { frames := 3, cells := 0, slots := 0, locals := 64 }
set_option maxRecDepth 100000 in
set_option maxHeartbeats 4000000 in
theorem mJ0_coder_7d493 (l : Launch) (E : GE) {S : GS} {i : Nat} (hi : i < 18) : gMet l E yJ0_coder_7d493 cJ0_coder_7d493 1 (some .byte) rmJ0_coder_7d493 [.ref (E.2.2.2.1 i)] S (some (.int 0)) S := by
  refine g_met (lv := [(0, .ref (E.2.2.2.1 i))]) (by decide) (Nat.le_of_ble_eq_true rfl) rfl fun p e s m below meth c H ls hc hG hl => ?_
  obtain ⟨hx, hb, -, -, -, hown, hts, hK, -⟩ := id hc
  refine g_xgets hc hG hK.2.2.2.2.1 flJ0_38 rfl dJ0_coder_7d493_0 ?_
  refine lv_if_eq (tgt := 13) hx hb dJ0_coder_7d493_3 (by decide) (fun c1 => absurd c1 (by decide)) (fun c1 => ?_)
  refine lv_aload_n hx hb dJ0_coder_7d493_6 rfl (lv_at hl 0 rfl) ?_
  refine g_xget hc hG (hK.2.2.1.1 i hi).2.1 flJ0_15 rfl dJ0_coder_7d493_7 ?_
  refine lv_goto (tgt := 14) hx hb dJ0_coder_7d493_10 (by decide) ?_
  exact g_nret hc hG (by decide) dJ0_coder_7d493_14
set_option maxRecDepth 100000 in
set_option maxHeartbeats 4000000 in
theorem mJ0_isLatin1_aae02 (l : Launch) (E : GE) {S : GS} {i : Nat} (hi : i < 18) : gMet l E yJ0_isLatin1_aae02 cJ0_isLatin1_aae02 1 (some .boolean) rmJ0_isLatin1_aae02 [.ref (E.2.2.2.1 i)] S (some (.int 1)) S := by
  refine g_met (lv := [(0, .ref (E.2.2.2.1 i))]) (by decide) (Nat.le_of_ble_eq_true rfl) rfl fun p e s m below meth c H ls hc hG hl => ?_
  obtain ⟨hx, hb, -, -, -, hown, hts, hK, -⟩ := id hc
  refine g_xgets hc hG hK.2.2.2.2.1 flJ0_38 rfl dJ0_isLatin1_aae02_0 ?_
  refine lv_if_eq (tgt := 17) hx hb dJ0_isLatin1_aae02_3 (by decide) (fun c1 => absurd c1 (by decide)) (fun c1 => ?_)
  refine lv_aload_n hx hb dJ0_isLatin1_aae02_6 rfl (lv_at hl 0 rfl) ?_
  refine g_xget hc hG (hK.2.2.1.1 i hi).2.1 flJ0_15 rfl dJ0_isLatin1_aae02_7 ?_
  refine lv_if_ne (tgt := 17) hx hb dJ0_isLatin1_aae02_10 (by decide) (fun c1 => absurd rfl c1) (fun c1 => ?_)
  refine lv_iconst (v := (1 : Int32)) hx hb dJ0_isLatin1_aae02_13 (by decide) ?_
  refine lv_goto (tgt := 18) hx hb dJ0_isLatin1_aae02_14 (by decide) ?_
  exact g_nret hc hG (by decide) dJ0_isLatin1_aae02_18
set_option maxRecDepth 100000 in
set_option maxHeartbeats 4000000 in
theorem mJ0_length_8abf5 (l : Launch) (E : GE) {S : GS} {i : Nat} {res : Int32} (h : fJ0_length_8abf5 S i = some res) : gMet l E yJ0_length_8abf5 cJ0_length_8abf5 1 (some .int) rmJ0_length_8abf5 [.ref (E.2.2.2.1 i)] S (some (.int res)) S := by
  unfold fJ0_length_8abf5 at h
  obtain ⟨hi, h⟩ := g_if h
  cases h
  refine g_met (lv := [(0, .ref (E.2.2.2.1 i))]) (by decide) (Nat.le_of_ble_eq_true rfl) rfl fun p e s m below meth c H ls hc hG hl => ?_
  obtain ⟨hx, hb, -, -, -, hown, hts, hK, -⟩ := id hc
  refine lv_aload_n hx hb dJ0_length_8abf5_0 rfl (lv_at hl 0 rfl) ?_
  refine g_xget hc hG (hK.2.2.1.1 i hi).2.2.1 flJ0_9 rfl dJ0_length_8abf5_1 ?_
  refine g_xalen hc hG (hK.2.2.1.1 i hi).2.2.2 dJ0_length_8abf5_4 ?_
  refine lv_aload_n hx hb dJ0_length_8abf5_5 rfl (lv_at hl 0 rfl) ?_
  refine g_callX (As := []) (rest := [.int (Int32.ofNat (gsnL.getD i 0))]) hc hG i hi (mJ0_coder_7d493 l E hi) mlJ0_335 mcJ0_coder_7d493 miJ0_coder_7d493 rfl rfl hl.1 rfl rfl ⟨by decide, by decide⟩ (Nat.le_of_ble_eq_true rfl) ⟨by decide, by decide⟩ dJ0_length_8abf5_6 rfl (fun H locs hG => ?_)
  refine lv_ishr hx hb dJ0_length_8abf5_9 ?_
  refine lv_topi (fun v1 ev1 => ?_)
  have : v1 = Int32.ofNat (gsnL.getD i 0) := by
    rw [ev1]
    exact (show ∀ i, i < 18 → Int32.ofNat (gsnL.getD i 0) >>> ((0 : Int32) &&& 31) = Int32.ofNat (gsnL.getD i 0) by decide +kernel) i hi
  subst this
  exact g_iret0 hc hG dJ0_length_8abf5_10
set_option maxRecDepth 100000 in
set_option maxHeartbeats 4000000 in
theorem mJ3_checkIndex_8e157 (l : Launch) (E : GE) {S : GS} {a n : Int32} {v : Option Nat} (h0 : ¬ a < 0) (h1 : a < n) : gMet l E yJ3_checkIndex_8e157 cJ3_checkIndex_8e157 3 (some .int) rmJ3_checkIndex_8e157 [.int a, .int n, va_rf v] S (some (.int a)) S := by
  refine g_met (lv := [(0, .int a), (1, .int n), (2, va_rf v)]) (by decide) (by cases v <;> exact Nat.le_of_ble_eq_true rfl) (by cases v <;> rfl) fun p e s m below meth c H ls hc hG hl => ?_
  obtain ⟨hx, hb, -, -, -, hown, hts, hK, -⟩ := id hc
  refine lv_iload_n hx hb dJ3_checkIndex_8e157_0 rfl (lv_at hl 0 rfl) ?_
  refine lv_if_lt (tgt := 9) hx hb dJ3_checkIndex_8e157_1 (by decide) (fun c1 => absurd c1 h0) (fun c1 => ?_)
  refine lv_iload_n hx hb dJ3_checkIndex_8e157_4 rfl (lv_at hl 0 rfl) ?_
  refine lv_iload_n hx hb dJ3_checkIndex_8e157_5 rfl (lv_at hl 1 rfl) ?_
  refine lv_icmp_lt (tgt := 16) hx hb dJ3_checkIndex_8e157_6 (by decide) (fun c1 => ?_) (fun c1 => absurd h1 c1)
  refine lv_iload_n hx hb dJ3_checkIndex_8e157_16 rfl (lv_at hl 0 rfl) ?_
  exact g_iret0 hc hG dJ3_checkIndex_8e157_17
set_option maxRecDepth 100000 in
set_option maxHeartbeats 4000000 in
theorem mJ0_checkIndex_df160 (l : Launch) (E : GE) {S : GS} {a n : Int32} (h0 : ¬ a < 0) (h1 : a < n) : gMet l E yJ0_checkIndex_df160 cJ0_checkIndex_df160 2 none rmJ0_checkIndex_df160 [.int a, .int n] S none S := by
  refine g_met (lv := [(0, .int a), (1, .int n)]) (by decide) (Nat.le_of_ble_eq_true rfl) rfl fun p e s m below meth c H ls hc hG hl => ?_
  obtain ⟨hx, hb, -, -, -, hown, hts, hK, -⟩ := id hc
  obtain ⟨v, hv⟩ : ∃ v : Option Nat, va_Z "jdk/internal/util/Preconditions" "SIOOBE_FORMATTER" "Ljava/util/function/BiFunction;" (va_rf v) (gA E.1) s E.1 := by
    rcases hK.2.2.2.2.2.1 with z | ⟨t, z⟩
    · exact ⟨none, z⟩
    · exact ⟨some t, z⟩
  refine lv_iload_n hx hb dJ0_checkIndex_df160_0 rfl (lv_at hl 0 rfl) ?_
  refine lv_iload_n hx hb dJ0_checkIndex_df160_1 rfl (lv_at hl 1 rfl) ?_
  refine g_xgets hc hG hv flJ0_1053 rfl dJ0_checkIndex_df160_2 ?_
  refine g_callSi (As := [.int a, .int n, va_rf v]) hc hG (mJ3_checkIndex_8e157 l E h0 h1) mlJ0_1059 mcJ3_checkIndex_8e157 msJ3_checkIndex_8e157 rfl hl.1 rfl rfl ⟨by decide, by decide⟩ (Nat.le_of_ble_eq_true rfl) ⟨by decide, by decide⟩ dJ0_checkIndex_df160_5 rfl (fun H locs hG => ?_)
  refine lv_pop hx hb dJ0_checkIndex_df160_8 rfl ?_
  exact g_vret0 hc hG dJ0_checkIndex_df160_9
theorem g_nb {j : Int32} {n : Nat} (hn : n < 1000) (h : gib j n = true) : ¬ j < 0 ∧ j < Int32.ofNat n := by
  have h := gib_in h
  have h1 : ¬ j < 0 := fun q => h (Or.inl q)
  have h2 : j.toNatClampNeg < n := Nat.not_le.mp fun q => h (Or.inr q)
  refine ⟨h1, ?_⟩
  rw [Int32.lt_iff_toInt_lt]
  have h3 : (Int32.ofNat n).toInt = n := Int32.toInt_ofNat_of_lt (by omega)
  have h4 : ¬ j.toInt < 0 := fun q => h1 (by rw [Int32.lt_iff_toInt_lt]; exact q)
  rw [h3]
  have h5 : j.toNatClampNeg = j.toInt.toNat := rfl
  omega
set_option maxRecDepth 100000 in
set_option maxHeartbeats 4000000 in
theorem mJ1_charAt_3b067 (l : Launch) (E : GE) {S : GS} {i : Nat} {j : Int32} (hi : i < 18) (hj : gib j (gsnL.getD i 0) = true) : gMet l E yJ1_charAt_3b067 cJ1_charAt_3b067 2 (some .char) rmJ1_charAt_3b067 [.ref (E.2.2.2.2.1 i), .int j] S (some (.int (gsc i j.toNatClampNeg))) S := by
  obtain ⟨b1, b2⟩ := g_nb (gsn_s i hi) hj
  have hlt : j.toNatClampNeg < gsnL.getD i 0 := Nat.not_le.mp fun q => (gib_in hj) (Or.inr q)
  refine g_met (lv := [(0, .ref (E.2.2.2.2.1 i)), (1, .int j)]) (by decide) (Nat.le_of_ble_eq_true rfl) rfl fun p e s m below meth c H ls hc hG hl => ?_
  obtain ⟨hx, hb, -, -, -, hown, hts, hK, -⟩ := id hc
  refine lv_iload_n hx hb dJ1_charAt_3b067_0 rfl (lv_at hl 1 rfl) ?_
  refine lv_aload_n hx hb dJ1_charAt_3b067_1 rfl (lv_at hl 0 rfl) ?_
  refine g_xalen hc hG (hK.2.2.1.1 i hi).2.2.2 dJ1_charAt_3b067_2 ?_
  refine g_callSv (As := [.int j, .int (Int32.ofNat (gsnL.getD i 0))]) hc hG (mJ0_checkIndex_df160 l E b1 b2) mlJ1_9 mcJ0_checkIndex_df160 msJ0_checkIndex_df160 rfl hl.1 rfl rfl ⟨by decide, by decide⟩ (Nat.le_of_ble_eq_true rfl) ⟨by decide, by decide⟩ dJ1_charAt_3b067_3 rfl (fun H locs hG => ?_)
  refine lv_aload_n hx hb dJ1_charAt_3b067_6 rfl (lv_at hl 0 rfl) ?_
  refine lv_iload_n hx hb dJ1_charAt_3b067_7 rfl (lv_at hl 1 rfl) ?_
  refine g_xbald hc hG (hK.2.2.1.1 i hi).2.2.2 hj dJ1_charAt_3b067_8 ?_
  refine lv_sipush (v := (255 : Int32)) hx hb dJ1_charAt_3b067_9 (by decide) ?_
  refine lv_iand hx hb dJ1_charAt_3b067_12 ?_
  refine lv_i2c (v := gsc i j.toNatClampNeg) hx hb dJ1_charAt_3b067_13 (gsc_c i hi _ hlt).1 ?_
  exact g_nret hc hG (gsc_c i hi _ hlt).2 dJ1_charAt_3b067_14
set_option maxRecDepth 100000 in
set_option maxHeartbeats 4000000 in
theorem mJ0_charAt_5068e (l : Launch) (E : GE) {S : GS} {i : Nat} {j res : Int32} (h : fJ0_charAt_5068e S i j = some res) : gMet l E yJ0_charAt_5068e cJ0_charAt_5068e 2 (some .char) rmJ0_charAt_5068e [.ref (E.2.2.2.1 i), .int j] S (some (.int res)) S := by
  unfold fJ0_charAt_5068e at h
  obtain ⟨⟨hi, hj⟩, h⟩ := g_if h
  cases h
  have hlt : j.toNatClampNeg < gsnL.getD i 0 := Nat.not_le.mp fun q => (gib_in hj) (Or.inr q)
  refine g_met (lv := [(0, .ref (E.2.2.2.1 i)), (1, .int j)]) (by decide) (Nat.le_of_ble_eq_true rfl) rfl fun p e s m below meth c H ls hc hG hl => ?_
  obtain ⟨hx, hb, -, -, -, hown, hts, hK, -⟩ := id hc
  refine lv_aload_n hx hb dJ0_charAt_5068e_0 rfl (lv_at hl 0 rfl) ?_
  refine g_callX (As := []) (rest := []) hc hG i hi (mJ0_isLatin1_aae02 l E hi) mlJ0_492 mcJ0_isLatin1_aae02 miJ0_isLatin1_aae02 rfl rfl hl.1 rfl rfl ⟨by decide, by decide⟩ (Nat.le_of_ble_eq_true rfl) ⟨by decide, by decide⟩ dJ0_charAt_5068e_1 rfl (fun H locs hG => ?_)
  refine lv_if_eq (tgt := 16) hx hb dJ0_charAt_5068e_4 (by decide) (fun c1 => absurd c1 (by decide)) (fun c1 => ?_)
  refine lv_aload_n hx hb dJ0_charAt_5068e_7 rfl (lv_at hl 0 rfl) ?_
  refine g_xget hc hG (hK.2.2.1.1 i hi).2.2.1 flJ0_9 rfl dJ0_charAt_5068e_8 ?_
  refine lv_iload_n hx hb dJ0_charAt_5068e_11 rfl (lv_at hl 1 rfl) ?_
  refine g_callSi (As := [.ref (E.2.2.2.2.1 i), .int j]) hc hG (mJ1_charAt_3b067 l E hi hj) mlJ0_495 mcJ1_charAt_3b067 msJ1_charAt_3b067 rfl hl.1 rfl rfl ⟨by decide, by decide⟩ (Nat.le_of_ble_eq_true rfl) ⟨by decide, by decide⟩ dJ0_charAt_5068e_12 rfl (fun H locs hG => ?_)
  exact g_nret hc hG (gsc_c i hi _ hlt).2 dJ0_charAt_5068e_15
theorem gm_max_c : Cond.code Lib.Math.max.name Lib.Math.max.code 2 (some .int) ∈ lw_g := lw_g_of 722 (by decide +kernel) (by decide +kernel)
theorem gm_max_s : Cond.static Lib.Math.max.name ∈ lw_g := lw_g_of 721 (by decide +kernel) (by decide +kernel)
theorem gm_min_c : Cond.code Lib.Math.min.name Lib.Math.min.code 2 (some .int) ∈ lw_g := lw_g_of 448 (by decide +kernel) (by decide +kernel)
theorem gm_min_s : Cond.static Lib.Math.min.name ∈ lw_g := lw_g_of 447 (by decide +kernel) (by decide +kernel)
theorem gm_abs_c : Cond.code Lib.MathLoose.abs_long.x Lib.MathLoose.abs_long.code 2 (some .long) ∈ lw_g := lw_g_of 1455 (by decide +kernel) (by decide +kernel)
theorem gm_abs_s : Cond.static Lib.MathLoose.abs_long.x ∈ lw_g := lw_g_of 1454 (by decide +kernel) (by decide +kernel)
theorem gm_ini : Cond.initialized "java/lang/Math" ∈ lw_g := lw_g_of 13 (by decide +kernel) (by decide +kernel)
section GMath
variable {p : Program} {l : Launch} {e : Env} {R : Room} {s : State} {m : MethodId} {args : Array Value} {below : List Frame} {meth : Method} {c : Code} {H : Heap} {locs : List Loc} {cells slots : Nat} {Q : State → Prop}
variable {E : GE} {own : String} {cc : ByteArray} {nL pc idx : Nat} {ret : Option FieldType} {ls : Array Slot} {rest : List Value}
theorem g_mmax (hc : GM E p s m args meth c own cc nL ret) (hls : ls.size = nL) (hl : Cond.methodLink own idx Lib.Math.max.name ∈ lw_g) (hf : 1 ≤ R.frames) (hw : (rest.map fun v => v.category).sum + 13 ≤ R.locals) (hcs : cells ≤ R.cells ∧ slots ≤ R.slots) {x y : Int32} (hdg : decode cc pc = .ok (.invokestatic idx, 3))
    (kk : W p l e R s m args below meth c H locs cells slots Q (F0 m (pc + 3) ls (.int (if x < y then y else x) :: rest))) : W p l e R s m args below meth c H locs cells slots Q (F0 m pc ls (.int y :: .int x :: rest)) := by
  obtain ⟨hx, hb, hml, -, -, hown, hts, hK, -⟩ := hc
  exact va_mmax hx hb (hml.trans hls.symm) hown (hts _ hl) (hts _ gm_max_s) (hts _ gm_ini) (hts _ gm_max_c) hf hw hcs.1 hcs.2 hdg kk
theorem g_mmin (hc : GM E p s m args meth c own cc nL ret) (hls : ls.size = nL) (hl : Cond.methodLink own idx Lib.Math.min.name ∈ lw_g) (hf : 1 ≤ R.frames) (hw : (rest.map fun v => v.category).sum + 13 ≤ R.locals) (hcs : cells ≤ R.cells ∧ slots ≤ R.slots) {x y : Int32} (hdg : decode cc pc = .ok (.invokestatic idx, 3))
    (kk : W p l e R s m args below meth c H locs cells slots Q (F0 m (pc + 3) ls (.int (if y < x then y else x) :: rest))) : W p l e R s m args below meth c H locs cells slots Q (F0 m pc ls (.int y :: .int x :: rest)) := by
  obtain ⟨hx, hb, hml, -, -, hown, hts, hK, -⟩ := hc
  exact va_mmin hx hb (hml.trans hls.symm) hown (hts _ hl) (hts _ gm_min_s) (hts _ gm_ini) (hts _ gm_min_c) hf hw hcs.1 hcs.2 hdg kk
theorem g_mabs (hc : GM E p s m args meth c own cc nL ret) (hls : ls.size = nL) (hl : Cond.methodLink own idx Lib.MathLoose.abs_long.x ∈ lw_g) (hf : 1 ≤ R.frames) (hw : (rest.map fun v => v.category).sum + 13 ≤ R.locals) (hcs : cells ≤ R.cells ∧ slots ≤ R.slots) {x : Int64} (hdg : decode cc pc = .ok (.invokestatic idx, 3))
    (kk : W p l e R s m args below meth c H locs cells slots Q (F0 m (pc + 3) ls (.long (if 0 < x then x else -x) :: rest))) : W p l e R s m args below meth c H locs cells slots Q (F0 m pc ls (.long x :: rest)) := by
  obtain ⟨hx, hb, hml, -, -, hown, hts, hK, -⟩ := hc
  exact va_mabs_long hx hb (hml.trans hls.symm) hown (hts _ hl) (hts _ gm_abs_s) (hts _ gm_ini) (hts _ gm_abs_c) hf hw hcs.1 hcs.2 hdg kk
end GMath

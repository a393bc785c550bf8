abbrev rmX11_is : Room := { frames := 0, cells := 0, slots := 0, locals := 0 }
def fX11_is (S : GS) (a0 : Int32) : Option Int64 := (if a0 = 0 then (some (0 : Int64)) else (some (1 : Int64)))
set_option maxRecDepth 100000 in
set_option maxHeartbeats 4000000 in
theorem wX11_is_0 {p : Program} {l : Launch} {e : Env} {s : State} {m : MethodId} {args : Array Value} {below : List Frame} {meth : Method} {c : Code} {E : GE} {res : Int64} (hc : GM E p s m args meth c RX11 cX11_is 1 (some .long)) : ∀ (S : GS) (a0 : Int32) (H : Heap) (locs : List Loc) (ls : Array Slot), lv_has ls 1 [(0, .int a0)] → GX E S H locs → fX11_is S a0 = some res → W p l e rmX11_is s m args below meth c H locs 0 0 (gZ E below args s (some (.long res)) S) (F0 m 0 ls []) := by
  obtain ⟨hx, hb, -, -, -, hown, hts, -, -⟩ := id hc
  intro S a0 H locs ls hl hG h
  unfold fX11_is at h
  refine lv_iload_n hx hb dX11_is_0 rfl (lv_at hl 0 rfl) ?_
  refine lv_if_eq (tgt := 8) hx hb dX11_is_1 (by decide) (fun c1 => ?_) (fun c1 => ?_)
  · have h := g_pos c1 h
    refine lv_lconst (v := (0 : Int64)) hx hb dX11_is_8 (by decide) ?_
    exact g_lretp hc hG dX11_is_9 h
  · have h := g_neg c1 h
    refine lv_lconst (v := (1 : Int64)) hx hb dX11_is_4 (by decide) ?_
    refine lv_goto (tgt := 9) hx hb dX11_is_5 (by decide) ?_
    exact g_lretp hc hG dX11_is_9 h
theorem mX11_is (l : Launch) (E : GE) {S : GS} {a0 : Int32} {res : Int64} (h : fX11_is S a0 = some res) : gMet l E yX11_is cX11_is 1 (some .long) rmX11_is [.int a0] S (some (.long res)) S :=
  g_met (by decide) (Nat.le_of_ble_eq_true rfl) rfl fun p e s m below meth c H ls hc hG hl => wX11_is_0 hc S a0 H [] ls hl hG h
abbrev rmX11_does : Room := { frames := 1, cells := 0, slots := 0, locals := 22 }
def fX11_does_38 (S : GS) (t1 : Int32) (t2 : Int32) : Option (Int32 × GS) := gbv (fX11_is S t2) fun r2 => (if gib t1 72 = true then glet (gsl S 62 (t1.toNatClampNeg) r2) fun S4 => (some ((1 : Int32), S4)) else none)
set_option maxRecDepth 100000 in
set_option maxHeartbeats 4000000 in
theorem wX11_does_38 {p : Program} {l : Launch} {e : Env} {s : State} {m : MethodId} {args : Array Value} {below : List Frame} {meth : Method} {c : Code} {E : GE} {res : (Int32 × GS)} (hc : GM E p s m args meth c RX11 cX11_does 6 (some .boolean)) : ∀ (S : GS) (t1 : Int32) (t2 : Int32) (H : Heap) (locs : List Loc) (ls : Array Slot), lv_has ls 6 [] → GX E S H locs → fX11_does_38 S t1 t2 = some res → W p l e rmX11_does s m args below meth c H locs 0 0 (gZ E below args s (some (.int res.1)) res.2) (F0 m 38 ls [.int t2, .int t1, gR E 62]) := by
  obtain ⟨hx, hb, -, -, -, hown, hts, -, -⟩ := id hc
  intro S t1 t2 H locs ls hl hG h
  unfold fX11_does_38 at h
  obtain ⟨r2, hm1, h⟩ := g_bv h
  refine g_callSl (As := [.int t2]) hc hG (mX11_is l E hm1) mlX11_244 mcX11_is msX11_is rfl hl.1 rfl rfl ⟨by decide, by decide⟩ (Nat.le_of_ble_eq_true rfl) ⟨by decide, by decide⟩ dX11_does_38 rfl (fun H locs hG => ?_)
  obtain ⟨hi3, h⟩ := g_if h
  refine g_last hc hG 62 72 (t1.toNatClampNeg) rfl rfl hi3 rfl dX11_does_41 (fun S4 H locs eS4 hG => ?_)
  have h := g_let eS4 h
  refine lv_iconst (v := (1 : Int32)) hx hb dX11_does_42 (by decide) ?_
  exact g_zret hc hG (Or.inr rfl) dX11_does_43 h
def fX11_does_195 (S : GS) (t1 : Int32) : Option (Int32 × GS) := gbv (fX11_is S t1) fun r2 => gbd (fX11_puts S r2) fun r4 S5 => (if (r4 = 0 ∨ r4 = 1) then (some (r4, S5)) else none)
set_option maxRecDepth 100000 in
set_option maxHeartbeats 4000000 in
theorem wX11_does_195 {p : Program} {l : Launch} {e : Env} {s : State} {m : MethodId} {args : Array Value} {below : List Frame} {meth : Method} {c : Code} {E : GE} {res : (Int32 × GS)} (hc : GM E p s m args meth c RX11 cX11_does 6 (some .boolean)) : ∀ (S : GS) (t1 : Int32) (H : Heap) (locs : List Loc) (ls : Array Slot), lv_has ls 6 [] → GX E S H locs → fX11_does_195 S t1 = some res → W p l e rmX11_does s m args below meth c H locs 0 0 (gZ E below args s (some (.int res.1)) res.2) (F0 m 195 ls [.int t1, gR E 54]) := by
  obtain ⟨hx, hb, -, -, -, hown, hts, -, -⟩ := id hc
  intro S t1 H locs ls hl hG h
  unfold fX11_does_195 at h
  obtain ⟨r2, hm1, h⟩ := g_bv h
  refine g_callSl (As := [.int t1]) hc hG (mX11_is l E hm1) mlX11_244 mcX11_is msX11_is rfl hl.1 rfl rfl ⟨by decide, by decide⟩ (Nat.le_of_ble_eq_true rfl) ⟨by decide, by decide⟩ dX11_does_195 rfl (fun H locs hG => ?_)
  obtain ⟨r4, S5, hm3, h⟩ := g_bd h
  refine g_callVi (As := [.long r2]) hc hG (mX11_puts l E hm3) mlX11_248 mcX11_puts miX11_puts rfl rfl rfl rfl hl.1 rfl rfl ⟨by decide, by decide⟩ (Nat.le_of_ble_eq_true rfl) ⟨by decide, by decide⟩ dX11_does_198 rfl (fun H locs hG => ?_)
  obtain ⟨hz6, h⟩ := g_if h
  exact g_zret hc hG hz6 dX11_does_201 h
def fX11_does_190 (S : GS) : Option (Int32 × GS) := (fX11_does_195 S (1 : Int32))
set_option maxRecDepth 100000 in
set_option maxHeartbeats 4000000 in
theorem wX11_does_190 {p : Program} {l : Launch} {e : Env} {s : State} {m : MethodId} {args : Array Value} {below : List Frame} {meth : Method} {c : Code} {E : GE} {res : (Int32 × GS)} (hc : GM E p s m args meth c RX11 cX11_does 6 (some .boolean)) : ∀ (S : GS) (H : Heap) (locs : List Loc) (ls : Array Slot), lv_has ls 6 [] → GX E S H locs → fX11_does_190 S = some res → W p l e rmX11_does s m args below meth c H locs 0 0 (gZ E below args s (some (.int res.1)) res.2) (F0 m 190 ls [gR E 54]) := by
  obtain ⟨hx, hb, -, -, -, hown, hts, -, -⟩ := id hc
  intro S H locs ls hl hG h
  unfold fX11_does_190 at h
  refine lv_iconst (v := (1 : Int32)) hx hb dX11_does_190 (by decide) ?_
  refine lv_goto (tgt := 195) hx hb dX11_does_191 (by decide) ?_
  exact wX11_does_195 hc S (1 : Int32) _ _ _ (lv_sub hl [] rfl) hG h
def fX11_does_221 (S : GS) (t1 : Int32) : Option (Int32 × GS) := gbv (fX11_is S t1) fun r2 => gbd (fX11_puts S r2) fun r4 S5 => (if (r4 = 0 ∨ r4 = 1) then (some (r4, S5)) else none)
set_option maxRecDepth 100000 in
set_option maxHeartbeats 4000000 in
theorem wX11_does_221 {p : Program} {l : Launch} {e : Env} {s : State} {m : MethodId} {args : Array Value} {below : List Frame} {meth : Method} {c : Code} {E : GE} {res : (Int32 × GS)} (hc : GM E p s m args meth c RX11 cX11_does 6 (some .boolean)) : ∀ (S : GS) (t1 : Int32) (H : Heap) (locs : List Loc) (ls : Array Slot), lv_has ls 6 [] → GX E S H locs → fX11_does_221 S t1 = some res → W p l e rmX11_does s m args below meth c H locs 0 0 (gZ E below args s (some (.int res.1)) res.2) (F0 m 221 ls [.int t1, gR E 54]) := by
  obtain ⟨hx, hb, -, -, -, hown, hts, -, -⟩ := id hc
  intro S t1 H locs ls hl hG h
  unfold fX11_does_221 at h
  obtain ⟨r2, hm1, h⟩ := g_bv h
  refine g_callSl (As := [.int t1]) hc hG (mX11_is l E hm1) mlX11_244 mcX11_is msX11_is rfl hl.1 rfl rfl ⟨by decide, by decide⟩ (Nat.le_of_ble_eq_true rfl) ⟨by decide, by decide⟩ dX11_does_221 rfl (fun H locs hG => ?_)
  obtain ⟨r4, S5, hm3, h⟩ := g_bd h
  refine g_callVi (As := [.long r2]) hc hG (mX11_puts l E hm3) mlX11_248 mcX11_puts miX11_puts rfl rfl rfl rfl hl.1 rfl rfl ⟨by decide, by decide⟩ (Nat.le_of_ble_eq_true rfl) ⟨by decide, by decide⟩ dX11_does_224 rfl (fun H locs hG => ?_)
  obtain ⟨hz6, h⟩ := g_if h
  exact g_zret hc hG hz6 dX11_does_227 h
def fX11_does_220 (S : GS) : Option (Int32 × GS) := (fX11_does_221 S (0 : Int32))
set_option maxRecDepth 100000 in
set_option maxHeartbeats 4000000 in
theorem wX11_does_220 {p : Program} {l : Launch} {e : Env} {s : State} {m : MethodId} {args : Array Value} {below : List Frame} {meth : Method} {c : Code} {E : GE} {res : (Int32 × GS)} (hc : GM E p s m args meth c RX11 cX11_does 6 (some .boolean)) : ∀ (S : GS) (H : Heap) (locs : List Loc) (ls : Array Slot), lv_has ls 6 [] → GX E S H locs → fX11_does_220 S = some res → W p l e rmX11_does s m args below meth c H locs 0 0 (gZ E below args s (some (.int res.1)) res.2) (F0 m 220 ls [gR E 54]) := by
  obtain ⟨hx, hb, -, -, -, hown, hts, -, -⟩ := id hc
  intro S H locs ls hl hG h
  unfold fX11_does_220 at h
  refine lv_iconst (v := (0 : Int32)) hx hb dX11_does_220 (by decide) ?_
  exact wX11_does_221 hc S (0 : Int32) _ _ _ (lv_sub hl [] rfl) hG h
def fX11_does_241 (S : GS) (t1 : Int32) : Option (Int32 × GS) := gbv (fX11_is S t1) fun r2 => gbd (fX11_puts S r2) fun r4 S5 => (if (r4 = 0 ∨ r4 = 1) then (some (r4, S5)) else none)
set_option maxRecDepth 100000 in
set_option maxHeartbeats 4000000 in
theorem wX11_does_241 {p : Program} {l : Launch} {e : Env} {s : State} {m : MethodId} {args : Array Value} {below : List Frame} {meth : Method} {c : Code} {E : GE} {res : (Int32 × GS)} (hc : GM E p s m args meth c RX11 cX11_does 6 (some .boolean)) : ∀ (S : GS) (t1 : Int32) (H : Heap) (locs : List Loc) (ls : Array Slot), lv_has ls 6 [] → GX E S H locs → fX11_does_241 S t1 = some res → W p l e rmX11_does s m args below meth c H locs 0 0 (gZ E below args s (some (.int res.1)) res.2) (F0 m 241 ls [.int t1, gR E 54]) := by
  obtain ⟨hx, hb, -, -, -, hown, hts, -, -⟩ := id hc
  intro S t1 H locs ls hl hG h
  unfold fX11_does_241 at h
  obtain ⟨r2, hm1, h⟩ := g_bv h
  refine g_callSl (As := [.int t1]) hc hG (mX11_is l E hm1) mlX11_244 mcX11_is msX11_is rfl hl.1 rfl rfl ⟨by decide, by decide⟩ (Nat.le_of_ble_eq_true rfl) ⟨by decide, by decide⟩ dX11_does_241 rfl (fun H locs hG => ?_)
  obtain ⟨r4, S5, hm3, h⟩ := g_bd h
  refine g_callVi (As := [.long r2]) hc hG (mX11_puts l E hm3) mlX11_248 mcX11_puts miX11_puts rfl rfl rfl rfl hl.1 rfl rfl ⟨by decide, by decide⟩ (Nat.le_of_ble_eq_true rfl) ⟨by decide, by decide⟩ dX11_does_244 rfl (fun H locs hG => ?_)
  obtain ⟨hz6, h⟩ := g_if h
  exact g_zret hc hG hz6 dX11_does_247 h
def fX11_does_261 (S : GS) (t1 : Int32) : Option (Int32 × GS) := gbv (fX11_is S t1) fun r2 => gbd (fX11_puts S r2) fun r4 S5 => (if (r4 = 0 ∨ r4 = 1) then (some (r4, S5)) else none)
set_option maxRecDepth 100000 in
set_option maxHeartbeats 4000000 in
theorem wX11_does_261 {p : Program} {l : Launch} {e : Env} {s : State} {m : MethodId} {args : Array Value} {below : List Frame} {meth : Method} {c : Code} {E : GE} {res : (Int32 × GS)} (hc : GM E p s m args meth c RX11 cX11_does 6 (some .boolean)) : ∀ (S : GS) (t1 : Int32) (H : Heap) (locs : List Loc) (ls : Array Slot), lv_has ls 6 [] → GX E S H locs → fX11_does_261 S t1 = some res → W p l e rmX11_does s m args below meth c H locs 0 0 (gZ E below args s (some (.int res.1)) res.2) (F0 m 261 ls [.int t1, gR E 54]) := by
  obtain ⟨hx, hb, -, -, -, hown, hts, -, -⟩ := id hc
  intro S t1 H locs ls hl hG h
  unfold fX11_does_261 at h
  obtain ⟨r2, hm1, h⟩ := g_bv h
  refine g_callSl (As := [.int t1]) hc hG (mX11_is l E hm1) mlX11_244 mcX11_is msX11_is rfl hl.1 rfl rfl ⟨by decide, by decide⟩ (Nat.le_of_ble_eq_true rfl) ⟨by decide, by decide⟩ dX11_does_261 rfl (fun H locs hG => ?_)
  obtain ⟨r4, S5, hm3, h⟩ := g_bd h
  refine g_callVi (As := [.long r2]) hc hG (mX11_puts l E hm3) mlX11_248 mcX11_puts miX11_puts rfl rfl rfl rfl hl.1 rfl rfl ⟨by decide, by decide⟩ (Nat.le_of_ble_eq_true rfl) ⟨by decide, by decide⟩ dX11_does_264 rfl (fun H locs hG => ?_)
  obtain ⟨hz6, h⟩ := g_if h
  exact g_zret hc hG hz6 dX11_does_267 h
def fX11_does_281 (S : GS) (t1 : Int32) : Option (Int32 × GS) := gbv (fX11_is S t1) fun r2 => gbd (fX11_puts S r2) fun r4 S5 => (if (r4 = 0 ∨ r4 = 1) then (some (r4, S5)) else none)
set_option maxRecDepth 100000 in
set_option maxHeartbeats 4000000 in
theorem wX11_does_281 {p : Program} {l : Launch} {e : Env} {s : State} {m : MethodId} {args : Array Value} {below : List Frame} {meth : Method} {c : Code} {E : GE} {res : (Int32 × GS)} (hc : GM E p s m args meth c RX11 cX11_does 6 (some .boolean)) : ∀ (S : GS) (t1 : Int32) (H : Heap) (locs : List Loc) (ls : Array Slot), lv_has ls 6 [] → GX E S H locs → fX11_does_281 S t1 = some res → W p l e rmX11_does s m args below meth c H locs 0 0 (gZ E below args s (some (.int res.1)) res.2) (F0 m 281 ls [.int t1, gR E 54]) := by
  obtain ⟨hx, hb, -, -, -, hown, hts, -, -⟩ := id hc
  intro S t1 H locs ls hl hG h
  unfold fX11_does_281 at h
  obtain ⟨r2, hm1, h⟩ := g_bv h
  refine g_callSl (As := [.int t1]) hc hG (mX11_is l E hm1) mlX11_244 mcX11_is msX11_is rfl hl.1 rfl rfl ⟨by decide, by decide⟩ (Nat.le_of_ble_eq_true rfl) ⟨by decide, by decide⟩ dX11_does_281 rfl (fun H locs hG => ?_)
  obtain ⟨r4, S5, hm3, h⟩ := g_bd h
  refine g_callVi (As := [.long r2]) hc hG (mX11_puts l E hm3) mlX11_248 mcX11_puts miX11_puts rfl rfl rfl rfl hl.1 rfl rfl ⟨by decide, by decide⟩ (Nat.le_of_ble_eq_true rfl) ⟨by decide, by decide⟩ dX11_does_284 rfl (fun H locs hG => ?_)
  obtain ⟨hz6, h⟩ := g_if h
  exact g_zret hc hG hz6 dX11_does_287 h
def fX11_does_301 (S : GS) (t1 : Int32) : Option (Int32 × GS) := gbv (fX11_is S t1) fun r2 => gbd (fX11_puts S r2) fun r4 S5 => (if (r4 = 0 ∨ r4 = 1) then (some (r4, S5)) else none)
set_option maxRecDepth 100000 in
set_option maxHeartbeats 4000000 in
theorem wX11_does_301 {p : Program} {l : Launch} {e : Env} {s : State} {m : MethodId} {args : Array Value} {below : List Frame} {meth : Method} {c : Code} {E : GE} {res : (Int32 × GS)} (hc : GM E p s m args meth c RX11 cX11_does 6 (some .boolean)) : ∀ (S : GS) (t1 : Int32) (H : Heap) (locs : List Loc) (ls : Array Slot), lv_has ls 6 [] → GX E S H locs → fX11_does_301 S t1 = some res → W p l e rmX11_does s m args below meth c H locs 0 0 (gZ E below args s (some (.int res.1)) res.2) (F0 m 301 ls [.int t1, gR E 54]) := by
  obtain ⟨hx, hb, -, -, -, hown, hts, -, -⟩ := id hc
  intro S t1 H locs ls hl hG h
  unfold fX11_does_301 at h
  obtain ⟨r2, hm1, h⟩ := g_bv h
  refine g_callSl (As := [.int t1]) hc hG (mX11_is l E hm1) mlX11_244 mcX11_is msX11_is rfl hl.1 rfl rfl ⟨by decide, by decide⟩ (Nat.le_of_ble_eq_true rfl) ⟨by decide, by decide⟩ dX11_does_301 rfl (fun H locs hG => ?_)
  obtain ⟨r4, S5, hm3, h⟩ := g_bd h
  refine g_callVi (As := [.long r2]) hc hG (mX11_puts l E hm3) mlX11_248 mcX11_puts miX11_puts rfl rfl rfl rfl hl.1 rfl rfl ⟨by decide, by decide⟩ (Nat.le_of_ble_eq_true rfl) ⟨by decide, by decide⟩ dX11_does_304 rfl (fun H locs hG => ?_)
  obtain ⟨hz6, h⟩ := g_if h
  exact g_zret hc hG hz6 dX11_does_307 h
def fX11_does_321 (S : GS) (t1 : Int32) : Option (Int32 × GS) := gbv (fX11_is S t1) fun r2 => gbd (fX11_puts S r2) fun r4 S5 => (if (r4 = 0 ∨ r4 = 1) then (some (r4, S5)) else none)
set_option maxRecDepth 100000 in
set_option maxHeartbeats 4000000 in
theorem wX11_does_321 {p : Program} {l : Launch} {e : Env} {s : State} {m : MethodId} {args : Array Value} {below : List Frame} {meth : Method} {c : Code} {E : GE} {res : (Int32 × GS)} (hc : GM E p s m args meth c RX11 cX11_does 6 (some .boolean)) : ∀ (S : GS) (t1 : Int32) (H : Heap) (locs : List Loc) (ls : Array Slot), lv_has ls 6 [] → GX E S H locs → fX11_does_321 S t1 = some res → W p l e rmX11_does s m args below meth c H locs 0 0 (gZ E below args s (some (.int res.1)) res.2) (F0 m 321 ls [.int t1, gR E 54]) := by
  obtain ⟨hx, hb, -, -, -, hown, hts, -, -⟩ := id hc
  intro S t1 H locs ls hl hG h
  unfold fX11_does_321 at h
  obtain ⟨r2, hm1, h⟩ := g_bv h
  refine g_callSl (As := [.int t1]) hc hG (mX11_is l E hm1) mlX11_244 mcX11_is msX11_is rfl hl.1 rfl rfl ⟨by decide, by decide⟩ (Nat.le_of_ble_eq_true rfl) ⟨by decide, by decide⟩ dX11_does_321 rfl (fun H locs hG => ?_)
  obtain ⟨r4, S5, hm3, h⟩ := g_bd h
  refine g_callVi (As := [.long r2]) hc hG (mX11_puts l E hm3) mlX11_248 mcX11_puts miX11_puts rfl rfl rfl rfl hl.1 rfl rfl ⟨by decide, by decide⟩ (Nat.le_of_ble_eq_true rfl) ⟨by decide, by decide⟩ dX11_does_324 rfl (fun H locs hG => ?_)
  obtain ⟨hz6, h⟩ := g_if h
  exact g_zret hc hG hz6 dX11_does_327 h
def fX11_does_341 (S : GS) (t1 : Int32) : Option (Int32 × GS) := gbv (fX11_is S t1) fun r2 => gbd (fX11_puts S r2) fun r4 S5 => (if (r4 = 0 ∨ r4 = 1) then (some (r4, S5)) else none)
set_option maxRecDepth 100000 in
set_option maxHeartbeats 4000000 in
theorem wX11_does_341 {p : Program} {l : Launch} {e : Env} {s : State} {m : MethodId} {args : Array Value} {below : List Frame} {meth : Method} {c : Code} {E : GE} {res : (Int32 × GS)} (hc : GM E p s m args meth c RX11 cX11_does 6 (some .boolean)) : ∀ (S : GS) (t1 : Int32) (H : Heap) (locs : List Loc) (ls : Array Slot), lv_has ls 6 [] → GX E S H locs → fX11_does_341 S t1 = some res → W p l e rmX11_does s m args below meth c H locs 0 0 (gZ E below args s (some (.int res.1)) res.2) (F0 m 341 ls [.int t1, gR E 54]) := by
  obtain ⟨hx, hb, -, -, -, hown, hts, -, -⟩ := id hc
  intro S t1 H locs ls hl hG h
  unfold fX11_does_341 at h
  obtain ⟨r2, hm1, h⟩ := g_bv h
  refine g_callSl (As := [.int t1]) hc hG (mX11_is l E hm1) mlX11_244 mcX11_is msX11_is rfl hl.1 rfl rfl ⟨by decide, by decide⟩ (Nat.le_of_ble_eq_true rfl) ⟨by decide, by decide⟩ dX11_does_341 rfl (fun H locs hG => ?_)
  obtain ⟨r4, S5, hm3, h⟩ := g_bd h
  refine g_callVi (As := [.long r2]) hc hG (mX11_puts l E hm3) mlX11_248 mcX11_puts miX11_puts rfl rfl rfl rfl hl.1 rfl rfl ⟨by decide, by decide⟩ (Nat.le_of_ble_eq_true rfl) ⟨by decide, by decide⟩ dX11_does_344 rfl (fun H locs hG => ?_)
  obtain ⟨hz6, h⟩ := g_if h
  exact g_zret hc hG hz6 dX11_does_347 h
def fX11_does_389 (S : GS) (a2 : Int64) (a4 : Int64) : Option (Int32 × GS) := gbd (fX11_puts S (a2 * a4)) fun r2 S3 => (if r2 = 0 then (some ((0 : Int32), S3)) else (some ((1 : Int32), S3)))
set_option maxRecDepth 100000 in
set_option maxHeartbeats 4000000 in
theorem wX11_does_389 {p : Program} {l : Launch} {e : Env} {s : State} {m : MethodId} {args : Array Value} {below : List Frame} {meth : Method} {c : Code} {E : GE} {res : (Int32 × GS)} (hc : GM E p s m args meth c RX11 cX11_does 6 (some .boolean)) : ∀ (S : GS) (a2 : Int64) (a4 : Int64) (H : Heap) (locs : List Loc) (ls : Array Slot), lv_has ls 6 [(0, gR E 54), (2, .long a2), (4, .long a4)] → GX E S H locs → fX11_does_389 S a2 a4 = some res → W p l e rmX11_does s m args below meth c H locs 0 0 (gZ E below args s (some (.int res.1)) res.2) (F0 m 389 ls []) := by
  obtain ⟨hx, hb, -, -, -, hown, hts, -, -⟩ := id hc
  intro S a2 a4 H locs ls hl hG h
  unfold fX11_does_389 at h
  refine lv_aload_n hx hb dX11_does_389 rfl (lv_at hl 0 rfl) ?_
  refine lv_lload_n hx hb dX11_does_390 rfl (lv_at hl 1 rfl) ?_
  refine lv_lload hx hb dX11_does_391 (lv_at hl 2 rfl) ?_
  refine lv_lmul hx hb dX11_does_393 ?_
  obtain ⟨r2, S3, hm1, h⟩ := g_bd h
  refine g_callVi (As := [.long (a2 * a4)]) hc hG (mX11_puts l E hm1) mlX11_248 mcX11_puts miX11_puts rfl rfl rfl rfl hl.1 rfl rfl ⟨by decide, by decide⟩ (Nat.le_of_ble_eq_true rfl) ⟨by decide, by decide⟩ dX11_does_394 rfl (fun H locs hG => ?_)
  refine lv_if_eq (tgt := 404) hx hb dX11_does_397 (by decide) (fun c4 => ?_) (fun c4 => ?_)
  · have h := g_pos c4 h
    refine lv_iconst (v := (0 : Int32)) hx hb dX11_does_404 (by decide) ?_
    exact g_zret hc hG (Or.inl rfl) dX11_does_405 h
  · have h := g_neg c4 h
    refine lv_iconst (v := (1 : Int32)) hx hb dX11_does_400 (by decide) ?_
    refine lv_goto (tgt := 405) hx hb dX11_does_401 (by decide) ?_
    exact g_zret hc hG (Or.inr rfl) dX11_does_405 h
def fX11_does (S : GS) (a1 : Int32) : Option (Int32 × GS) := (if a1 = (260 : Int32) then (if gib ((S.1 54 28) - (1 : Int32)) 72 = true then (if (lg_cmp (S.2.1 62 (((S.1 54 28) - (1 : Int32))).toNatClampNeg) (0 : Int64)) = 0 then (fX11_does_38 S ((S.1 54 28) - (1 : Int32)) (1 : Int32)) else (fX11_does_38 S ((S.1 54 28) - (1 : Int32)) (0 : Int32))) else none) else glet (gsi S 54 28 ((S.1 54 28) - (2 : Int32))) fun S2 => (if gib (S2.1 54 28) 72 = true then glet (S2.2.1 62 ((S2.1 54 28)).toNatClampNeg) fun v4 => (if gib ((S2.1 54 28) + (1 : Int32)) 72 = true then glet (S2.2.1 62 (((S2.1 54 28) + (1 : Int32))).toNatClampNeg) fun v6 => (if a1 = (42 : Int32) then (if (lg_cmp v4 (0 : Int64)) = 0 then (fX11_does_389 S2 v4 v6) else (if ¬ (if 0 < v4 then v4 else -v4) = 0 then (if 0 < (lg_cmp (if 0 < v6 then v6 else -v6) ((1000000000000 : Int64) / (if 0 < v4 then v4 else -v4))) then (some ((0 : Int32), S2)) else (fX11_does_389 S2 v4 v6)) else none)) else (if a1 = (43 : Int32) then gbd (fX11_puts S2 (v4 + v6)) fun r13 S14 => (if (r13 = 0 ∨ r13 = 1) then (some (r13, S14)) else none) else (if a1 = (45 : Int32) then gbd (fX11_puts S2 (v4 - v6)) fun r18 S19 => (if (r18 = 0 ∨ r18 = 1) then (some (r18, S19)) else none) else (if a1 = (60 : Int32) then (if 0 ≤ (lg_cmp v4 v6) then (fX11_does_241 S2 (0 : Int32)) else (fX11_does_241 S2 (1 : Int32))) else (if a1 = (61 : Int32) then (if (lg_cmp v4 v6) = 0 then (fX11_does_281 S2 (1 : Int32)) else (fX11_does_281 S2 (0 : Int32))) else (if a1 = (62 : Int32) then (if (lg_cmp v4 v6) ≤ 0 then (fX11_does_341 S2 (0 : Int32)) else (fX11_does_341 S2 (1 : Int32))) else (if a1 = (256 : Int32) then (if 0 < (lg_cmp v4 v6) then (fX11_does_261 S2 (0 : Int32)) else (fX11_does_261 S2 (1 : Int32))) else (if a1 = (257 : Int32) then (if (lg_cmp v4 v6) = 0 then (fX11_does_301 S2 (0 : Int32)) else (fX11_does_301 S2 (1 : Int32))) else (if a1 = (258 : Int32) then (if (lg_cmp v4 v6) < 0 then (fX11_does_321 S2 (0 : Int32)) else (fX11_does_321 S2 (1 : Int32))) else (if a1 = (261 : Int32) then (if (lg_cmp v4 (0 : Int64)) = 0 then (fX11_does_220 S2) else (if (lg_cmp v6 (0 : Int64)) = 0 then (fX11_does_220 S2) else (fX11_does_221 S2 (1 : Int32)))) else (if a1 = (262 : Int32) then (if (lg_cmp v4 (0 : Int64)) = 0 then (if (lg_cmp v6 (0 : Int64)) = 0 then (fX11_does_195 S2 (0 : Int32)) else (fX11_does_190 S2)) else (fX11_does_190 S2)) else (if (lg_cmp v6 (0 : Int64)) = 0 then (some ((0 : Int32), S2)) else (if ¬ v6 = 0 then gbd (fX11_puts S2 (v4 / v6)) fun r42 S43 => (if r42 = 0 then (some ((0 : Int32), S43)) else (some ((1 : Int32), S43))) else none))))))))))))) else none) else none))
set_option maxRecDepth 100000 in
set_option maxHeartbeats 4000000 in
theorem wX11_does_0 {p : Program} {l : Launch} {e : Env} {s : State} {m : MethodId} {args : Array Value} {below : List Frame} {meth : Method} {c : Code} {E : GE} {res : (Int32 × GS)} (hc : GM E p s m args meth c RX11 cX11_does 6 (some .boolean)) : ∀ (S : GS) (a1 : Int32) (H : Heap) (locs : List Loc) (ls : Array Slot), lv_has ls 6 [(0, gR E 54), (1, .int a1)] → GX E S H locs → fX11_does S a1 = some res → W p l e rmX11_does s m args below meth c H locs 0 0 (gZ E below args s (some (.int res.1)) res.2) (F0 m 0 ls []) := by
  obtain ⟨hx, hb, -, -, -, hown, hts, -, -⟩ := id hc
  intro S a1 H locs ls hl hG h
  unfold fX11_does at h
  refine lv_iload_n hx hb dX11_does_0 rfl (lv_at hl 1 rfl) ?_
  refine lv_sipush (v := (260 : Int32)) hx hb dX11_does_1 (by decide) ?_
  refine lv_icmp_ne (tgt := 44) hx hb dX11_does_4 (by decide) (fun c1 => ?_) (fun c1 => ?_)
  · have h := g_neg c1 h
    refine lv_aload_n hx hb dX11_does_44 rfl (lv_at hl 0 rfl) ?_
    refine lv_dup hx hb dX11_does_45 rfl ?_
    refine g_getI hc hG 54 flX11_237 rfl rfl dX11_does_46 ?_
    refine lv_iconst (v := (2 : Int32)) hx hb dX11_does_49 (by decide) ?_
    refine lv_isub hx hb dX11_does_50 ?_
    refine g_putI hc hG 54 fpX11_237 rfl rfl rfl rfl dX11_does_51 (fun S2 H locs eS2 hG => ?_)
    have h := g_let eS2 h
    refine lv_aload_n hx hb dX11_does_54 rfl (lv_at hl 0 rfl) ?_
    refine g_getR hc hG 54 62 flX11_40 rfl rfl rfl dX11_does_55 ?_
    refine lv_aload_n hx hb dX11_does_58 rfl (lv_at hl 0 rfl) ?_
    refine g_getI hc hG 54 flX11_237 rfl rfl dX11_does_59 ?_
    obtain ⟨hi3, h⟩ := g_if h
    refine g_lald hc hG 62 72 (((S2.1 54 28)).toNatClampNeg) rfl rfl hi3 rfl dX11_does_62 ?_
    refine lv_topl (fun v4 ev4 => ?_)
    have h := g_let ev4 h
    refine lv_lstore_n (lv' := [(2, .long v4), (0, gR E 54), (1, .int a1)]) hx hb dX11_does_63 rfl hl (by decide) rfl (fun ls hl => ?_)
    refine lv_aload_n hx hb dX11_does_64 rfl (lv_at hl 1 rfl) ?_
    refine g_getR hc hG 54 62 flX11_40 rfl rfl rfl dX11_does_65 ?_
    refine lv_aload_n hx hb dX11_does_68 rfl (lv_at hl 1 rfl) ?_
    refine g_getI hc hG 54 flX11_237 rfl rfl dX11_does_69 ?_
    refine lv_iconst (v := (1 : Int32)) hx hb dX11_does_72 (by decide) ?_
    refine lv_iadd hx hb dX11_does_73 ?_
    obtain ⟨hi5, h⟩ := g_if h
    refine g_lald hc hG 62 72 ((((S2.1 54 28) + (1 : Int32))).toNatClampNeg) rfl rfl hi5 rfl dX11_does_74 ?_
    refine lv_topl (fun v6 ev6 => ?_)
    have h := g_let ev6 h
    refine lv_lstore (lv' := [(4, .long v6), (2, .long v4), (0, gR E 54), (1, .int a1)]) hx hb dX11_does_75 hl (by decide) rfl (fun ls hl => ?_)
    refine lv_iload_n hx hb dX11_does_77 rfl (lv_at hl 3 rfl) ?_
    by_cases c7 : a1 = (42 : Int32)
    · have h := g_pos c7 h
      refine lv_lookup (off := 288) (tgt := 366) hx hb dX11_does_78 (by decide) (by rw [c7]; decide) (by decide) ?_
      refine lv_lload_n hx hb dX11_does_366 rfl (lv_at hl 1 rfl) ?_
      refine lv_lconst (v := (0 : Int64)) hx hb dX11_does_367 (by decide) ?_
      refine W.lcmp hx hb dX11_does_368 ?_
      refine lv_if_eq (tgt := 389) hx hb dX11_does_369 (by decide) (fun c8 => ?_) (fun c8 => ?_)
      · have h := g_pos c8 h
        exact wX11_does_389 hc S2 v4 v6 _ _ _ (lv_sub hl [2, 1, 0] rfl) hG h
      · have h := g_neg c8 h
        refine lv_lload hx hb dX11_does_372 (lv_at hl 0 rfl) ?_
        refine g_mabs hc hl.1 (mlX11_252) (by decide) (Nat.le_of_ble_eq_true rfl) ⟨by decide, by decide⟩ dX11_does_374 ?_
        refine lv_ldc2 (v := (1000000000000 : Int64)) hx hb hown (hts _ kcX11_240) dX11_does_377 ?_
        refine lv_lload_n hx hb dX11_does_380 rfl (lv_at hl 1 rfl) ?_
        refine g_mabs hc hl.1 (mlX11_252) (by decide) (Nat.le_of_ble_eq_true rfl) ⟨by decide, by decide⟩ dX11_does_381 ?_
        obtain ⟨hne9, h⟩ := g_if h
        refine lv_ldiv hx hb dX11_does_384 hne9 ?_
        refine W.lcmp hx hb dX11_does_385 ?_
        refine lv_if_gt (tgt := 404) hx hb dX11_does_386 (by decide) (fun c10 => ?_) (fun c10 => ?_)
        · have h := g_pos c10 h
          refine lv_iconst (v := (0 : Int32)) hx hb dX11_does_404 (by decide) ?_
          exact g_zret hc hG (Or.inl rfl) dX11_does_405 h
        · have h := g_neg c10 h
          exact wX11_does_389 hc S2 v4 v6 _ _ _ (lv_sub hl [2, 1, 0] rfl) hG h
    have h := g_neg c7 h
    by_cases c11 : a1 = (43 : Int32)
    · have h := g_pos c11 h
      refine lv_lookup (off := 270) (tgt := 348) hx hb dX11_does_78 (by decide) (by rw [c11]; decide) (by decide) ?_
      refine lv_aload_n hx hb dX11_does_348 rfl (lv_at hl 2 rfl) ?_
      refine lv_lload_n hx hb dX11_does_349 rfl (lv_at hl 1 rfl) ?_
      refine lv_lload hx hb dX11_does_350 (lv_at hl 0 rfl) ?_
      refine lv_ladd hx hb dX11_does_352 ?_
      obtain ⟨r13, S14, hm12, h⟩ := g_bd h
      refine g_callVi (As := [.long (v4 + v6)]) hc hG (mX11_puts l E hm12) mlX11_248 mcX11_puts miX11_puts rfl rfl rfl rfl hl.1 rfl rfl ⟨by decide, by decide⟩ (Nat.le_of_ble_eq_true rfl) ⟨by decide, by decide⟩ dX11_does_353 rfl (fun H locs hG => ?_)
      obtain ⟨hz15, h⟩ := g_if h
      exact g_zret hc hG hz15 dX11_does_356 h
    have h := g_neg c11 h
    by_cases c16 : a1 = (45 : Int32)
    · have h := g_pos c16 h
      refine lv_lookup (off := 279) (tgt := 357) hx hb dX11_does_78 (by decide) (by rw [c16]; decide) (by decide) ?_
      refine lv_aload_n hx hb dX11_does_357 rfl (lv_at hl 2 rfl) ?_
      refine lv_lload_n hx hb dX11_does_358 rfl (lv_at hl 1 rfl) ?_
      refine lv_lload hx hb dX11_does_359 (lv_at hl 0 rfl) ?_
      refine lv_lsub hx hb dX11_does_361 ?_
      obtain ⟨r18, S19, hm17, h⟩ := g_bd h
      refine g_callVi (As := [.long (v4 - v6)]) hc hG (mX11_puts l E hm17) mlX11_248 mcX11_puts miX11_puts rfl rfl rfl rfl hl.1 rfl rfl ⟨by decide, by decide⟩ (Nat.le_of_ble_eq_true rfl) ⟨by decide, by decide⟩ dX11_does_362 rfl (fun H locs hG => ?_)
      obtain ⟨hz20, h⟩ := g_if h
      exact g_zret hc hG hz20 dX11_does_365 h
    have h := g_neg c16 h
    by_cases c21 : a1 = (60 : Int32)
    · have h := g_pos c21 h
      refine lv_lookup (off := 150) (tgt := 228) hx hb dX11_does_78 (by decide) (by rw [c21]; decide) (by decide) ?_
      refine lv_aload_n hx hb dX11_does_228 rfl (lv_at hl 2 rfl) ?_
      refine lv_lload_n hx hb dX11_does_229 rfl (lv_at hl 1 rfl) ?_
      refine lv_lload hx hb dX11_does_230 (lv_at hl 0 rfl) ?_
      refine W.lcmp hx hb dX11_does_232 ?_
      refine lv_if_ge (tgt := 240) hx hb dX11_does_233 (by decide) (fun c22 => ?_) (fun c22 => ?_)
      · have h := g_pos c22 h
        refine lv_iconst (v := (0 : Int32)) hx hb dX11_does_240 (by decide) ?_
        exact wX11_does_241 hc S2 (0 : Int32) _ _ _ (lv_sub hl [] rfl) hG h
      · have h := g_neg c22 h
        refine lv_iconst (v := (1 : Int32)) hx hb dX11_does_236 (by decide) ?_
        refine lv_goto (tgt := 241) hx hb dX11_does_237 (by decide) ?_
        exact wX11_does_241 hc S2 (1 : Int32) _ _ _ (lv_sub hl [] rfl) hG h
    have h := g_neg c21 h
    by_cases c23 : a1 = (61 : Int32)
    · have h := g_pos c23 h
      refine lv_lookup (off := 190) (tgt := 268) hx hb dX11_does_78 (by decide) (by rw [c23]; decide) (by decide) ?_
      refine lv_aload_n hx hb dX11_does_268 rfl (lv_at hl 2 rfl) ?_
      refine lv_lload_n hx hb dX11_does_269 rfl (lv_at hl 1 rfl) ?_
      refine lv_lload hx hb dX11_does_270 (lv_at hl 0 rfl) ?_
      refine W.lcmp hx hb dX11_does_272 ?_
      refine lv_if_ne (tgt := 280) hx hb dX11_does_273 (by decide) (fun c24 => ?_) (fun c24 => ?_)
      · have h := g_neg c24 h
        refine lv_iconst (v := (0 : Int32)) hx hb dX11_does_280 (by decide) ?_
        exact wX11_does_281 hc S2 (0 : Int32) _ _ _ (lv_sub hl [] rfl) hG h
      · have h := g_pos c24 h
        refine lv_iconst (v := (1 : Int32)) hx hb dX11_does_276 (by decide) ?_
        refine lv_goto (tgt := 281) hx hb dX11_does_277 (by decide) ?_
        exact wX11_does_281 hc S2 (1 : Int32) _ _ _ (lv_sub hl [] rfl) hG h
    have h := g_neg c23 h
    by_cases c25 : a1 = (62 : Int32)
    · have h := g_pos c25 h
      refine lv_lookup (off := 250) (tgt := 328) hx hb dX11_does_78 (by decide) (by rw [c25]; decide) (by decide) ?_
      refine lv_aload_n hx hb dX11_does_328 rfl (lv_at hl 2 rfl) ?_
      refine lv_lload_n hx hb dX11_does_329 rfl (lv_at hl 1 rfl) ?_
      refine lv_lload hx hb dX11_does_330 (lv_at hl 0 rfl) ?_
      refine W.lcmp hx hb dX11_does_332 ?_
      refine lv_if_le (tgt := 340) hx hb dX11_does_333 (by decide) (fun c26 => ?_) (fun c26 => ?_)
      · have h := g_pos c26 h
        refine lv_iconst (v := (0 : Int32)) hx hb dX11_does_340 (by decide) ?_
        exact wX11_does_341 hc S2 (0 : Int32) _ _ _ (lv_sub hl [] rfl) hG h
      · have h := g_neg c26 h
        refine lv_iconst (v := (1 : Int32)) hx hb dX11_does_336 (by decide) ?_
        refine lv_goto (tgt := 341) hx hb dX11_does_337 (by decide) ?_
        exact wX11_does_341 hc S2 (1 : Int32) _ _ _ (lv_sub hl [] rfl) hG h
    have h := g_neg c25 h
    by_cases c27 : a1 = (256 : Int32)
    · have h := g_pos c27 h
      refine lv_lookup (off := 170) (tgt := 248) hx hb dX11_does_78 (by decide) (by rw [c27]; decide) (by decide) ?_
      refine lv_aload_n hx hb dX11_does_248 rfl (lv_at hl 2 rfl) ?_
      refine lv_lload_n hx hb dX11_does_249 rfl (lv_at hl 1 rfl) ?_
      refine lv_lload hx hb dX11_does_250 (lv_at hl 0 rfl) ?_
      refine W.lcmp hx hb dX11_does_252 ?_
      refine lv_if_gt (tgt := 260) hx hb dX11_does_253 (by decide) (fun c28 => ?_) (fun c28 => ?_)
      · have h := g_pos c28 h
        refine lv_iconst (v := (0 : Int32)) hx hb dX11_does_260 (by decide) ?_
        exact wX11_does_261 hc S2 (0 : Int32) _ _ _ (lv_sub hl [] rfl) hG h
      · have h := g_neg c28 h
        refine lv_iconst (v := (1 : Int32)) hx hb dX11_does_256 (by decide) ?_
        refine lv_goto (tgt := 261) hx hb dX11_does_257 (by decide) ?_
        exact wX11_does_261 hc S2 (1 : Int32) _ _ _ (lv_sub hl [] rfl) hG h
    have h := g_neg c27 h
    by_cases c29 : a1 = (257 : Int32)
    · have h := g_pos c29 h
      refine lv_lookup (off := 210) (tgt := 288) hx hb dX11_does_78 (by decide) (by rw [c29]; decide) (by decide) ?_
      refine lv_aload_n hx hb dX11_does_288 rfl (lv_at hl 2 rfl) ?_
      refine lv_lload_n hx hb dX11_does_289 rfl (lv_at hl 1 rfl) ?_
      refine lv_lload hx hb dX11_does_290 (lv_at hl 0 rfl) ?_
      refine W.lcmp hx hb dX11_does_292 ?_
      refine lv_if_eq (tgt := 300) hx hb dX11_does_293 (by decide) (fun c30 => ?_) (fun c30 => ?_)
      · have h := g_pos c30 h
        refine lv_iconst (v := (0 : Int32)) hx hb dX11_does_300 (by decide) ?_
        exact wX11_does_301 hc S2 (0 : Int32) _ _ _ (lv_sub hl [] rfl) hG h
      · have h := g_neg c30 h
        refine lv_iconst (v := (1 : Int32)) hx hb dX11_does_296 (by decide) ?_
        refine lv_goto (tgt := 301) hx hb dX11_does_297 (by decide) ?_
        exact wX11_does_301 hc S2 (1 : Int32) _ _ _ (lv_sub hl [] rfl) hG h
    have h := g_neg c29 h
    by_cases c31 : a1 = (258 : Int32)
    · have h := g_pos c31 h
      refine lv_lookup (off := 230) (tgt := 308) hx hb dX11_does_78 (by decide) (by rw [c31]; decide) (by decide) ?_
      refine lv_aload_n hx hb dX11_does_308 rfl (lv_at hl 2 rfl) ?_
      refine lv_lload_n hx hb dX11_does_309 rfl (lv_at hl 1 rfl) ?_
      refine lv_lload hx hb dX11_does_310 (lv_at hl 0 rfl) ?_
      refine W.lcmp hx hb dX11_does_312 ?_
      refine lv_if_lt (tgt := 320) hx hb dX11_does_313 (by decide) (fun c32 => ?_) (fun c32 => ?_)
      · have h := g_pos c32 h
        refine lv_iconst (v := (0 : Int32)) hx hb dX11_does_320 (by decide) ?_
        exact wX11_does_321 hc S2 (0 : Int32) _ _ _ (lv_sub hl [] rfl) hG h
      · have h := g_neg c32 h
        refine lv_iconst (v := (1 : Int32)) hx hb dX11_does_316 (by decide) ?_
        refine lv_goto (tgt := 321) hx hb dX11_does_317 (by decide) ?_
        exact wX11_does_321 hc S2 (1 : Int32) _ _ _ (lv_sub hl [] rfl) hG h
    have h := g_neg c31 h
    by_cases c33 : a1 = (261 : Int32)
    · have h := g_pos c33 h
      refine lv_lookup (off := 124) (tgt := 202) hx hb dX11_does_78 (by decide) (by rw [c33]; decide) (by decide) ?_
      refine lv_aload_n hx hb dX11_does_202 rfl (lv_at hl 2 rfl) ?_
      refine lv_lload_n hx hb dX11_does_203 rfl (lv_at hl 1 rfl) ?_
      refine lv_lconst (v := (0 : Int64)) hx hb dX11_does_204 (by decide) ?_
      refine W.lcmp hx hb dX11_does_205 ?_
      refine lv_if_eq (tgt := 220) hx hb dX11_does_206 (by decide) (fun c34 => ?_) (fun c34 => ?_)
      · have h := g_pos c34 h
        exact wX11_does_220 hc S2 _ _ _ (lv_sub hl [] rfl) hG h
      · have h := g_neg c34 h
        refine lv_lload hx hb dX11_does_209 (lv_at hl 0 rfl) ?_
        refine lv_lconst (v := (0 : Int64)) hx hb dX11_does_211 (by decide) ?_
        refine W.lcmp hx hb dX11_does_212 ?_
        refine lv_if_eq (tgt := 220) hx hb dX11_does_213 (by decide) (fun c35 => ?_) (fun c35 => ?_)
        · have h := g_pos c35 h
          exact wX11_does_220 hc S2 _ _ _ (lv_sub hl [] rfl) hG h
        · have h := g_neg c35 h
          refine lv_iconst (v := (1 : Int32)) hx hb dX11_does_216 (by decide) ?_
          refine lv_goto (tgt := 221) hx hb dX11_does_217 (by decide) ?_
          exact wX11_does_221 hc S2 (1 : Int32) _ _ _ (lv_sub hl [] rfl) hG h
    have h := g_neg c33 h
    by_cases c36 : a1 = (262 : Int32)
    · have h := g_pos c36 h
      refine lv_lookup (off := 98) (tgt := 176) hx hb dX11_does_78 (by decide) (by rw [c36]; decide) (by decide) ?_
      refine lv_aload_n hx hb dX11_does_176 rfl (lv_at hl 2 rfl) ?_
      refine lv_lload_n hx hb dX11_does_177 rfl (lv_at hl 1 rfl) ?_
      refine lv_lconst (v := (0 : Int64)) hx hb dX11_does_178 (by decide) ?_
      refine W.lcmp hx hb dX11_does_179 ?_
      refine lv_if_ne (tgt := 190) hx hb dX11_does_180 (by decide) (fun c37 => ?_) (fun c37 => ?_)
      · have h := g_neg c37 h
        exact wX11_does_190 hc S2 _ _ _ (lv_sub hl [] rfl) hG h
      · have h := g_pos c37 h
        refine lv_lload hx hb dX11_does_183 (lv_at hl 0 rfl) ?_
        refine lv_lconst (v := (0 : Int64)) hx hb dX11_does_185 (by decide) ?_
        refine W.lcmp hx hb dX11_does_186 ?_
        refine lv_if_eq (tgt := 194) hx hb dX11_does_187 (by decide) (fun c38 => ?_) (fun c38 => ?_)
        · have h := g_pos c38 h
          refine lv_iconst (v := (0 : Int32)) hx hb dX11_does_194 (by decide) ?_
          exact wX11_does_195 hc S2 (0 : Int32) _ _ _ (lv_sub hl [] rfl) hG h
        · have h := g_neg c38 h
          exact wX11_does_190 hc S2 _ _ _ (lv_sub hl [] rfl) hG h
    have h := g_neg c36 h
    have zc7 : ¬ Int32.toInt a1 = 42 := fun q => c7 (Int32.toInt_inj.mp (q.trans (by decide)))
    have zc11 : ¬ Int32.toInt a1 = 43 := fun q => c11 (Int32.toInt_inj.mp (q.trans (by decide)))
    have zc16 : ¬ Int32.toInt a1 = 45 := fun q => c16 (Int32.toInt_inj.mp (q.trans (by decide)))
    have zc21 : ¬ Int32.toInt a1 = 60 := fun q => c21 (Int32.toInt_inj.mp (q.trans (by decide)))
    have zc23 : ¬ Int32.toInt a1 = 61 := fun q => c23 (Int32.toInt_inj.mp (q.trans (by decide)))
    have zc25 : ¬ Int32.toInt a1 = 62 := fun q => c25 (Int32.toInt_inj.mp (q.trans (by decide)))
    have zc27 : ¬ Int32.toInt a1 = 256 := fun q => c27 (Int32.toInt_inj.mp (q.trans (by decide)))
    have zc29 : ¬ Int32.toInt a1 = 257 := fun q => c29 (Int32.toInt_inj.mp (q.trans (by decide)))
    have zc31 : ¬ Int32.toInt a1 = 258 := fun q => c31 (Int32.toInt_inj.mp (q.trans (by decide)))
    have zc33 : ¬ Int32.toInt a1 = 261 := fun q => c33 (Int32.toInt_inj.mp (q.trans (by decide)))
    have zc36 : ¬ Int32.toInt a1 = 262 := fun q => c36 (Int32.toInt_inj.mp (q.trans (by decide)))
    refine lv_lookup (off := 328) (tgt := 406) hx hb dX11_does_78 (by decide) (by simp [Op.lookupswitch.offset, zc7, Ne.symm zc7, zc11, Ne.symm zc11, zc16, Ne.symm zc16, zc21, Ne.symm zc21, zc23, Ne.symm zc23, zc25, Ne.symm zc25, zc27, Ne.symm zc27, zc29, Ne.symm zc29, zc31, Ne.symm zc31, zc33, Ne.symm zc33, zc36, Ne.symm zc36]) (by decide) ?_
    refine lv_lload hx hb dX11_does_406 (lv_at hl 0 rfl) ?_
    refine lv_lconst (v := (0 : Int64)) hx hb dX11_does_408 (by decide) ?_
    refine W.lcmp hx hb dX11_does_409 ?_
    refine lv_if_eq (tgt := 428) hx hb dX11_does_410 (by decide) (fun c39 => ?_) (fun c39 => ?_)
    · have h := g_pos c39 h
      refine lv_iconst (v := (0 : Int32)) hx hb dX11_does_428 (by decide) ?_
      exact g_zret hc hG (Or.inl rfl) dX11_does_429 h
    · have h := g_neg c39 h
      refine lv_aload_n hx hb dX11_does_413 rfl (lv_at hl 2 rfl) ?_
      refine lv_lload_n hx hb dX11_does_414 rfl (lv_at hl 1 rfl) ?_
      refine lv_lload hx hb dX11_does_415 (lv_at hl 0 rfl) ?_
      obtain ⟨hne40, h⟩ := g_if h
      refine lv_ldiv hx hb dX11_does_417 hne40 ?_
      obtain ⟨r42, S43, hm41, h⟩ := g_bd h
      refine g_callVi (As := [.long (v4 / v6)]) hc hG (mX11_puts l E hm41) mlX11_248 mcX11_puts miX11_puts rfl rfl rfl rfl hl.1 rfl rfl ⟨by decide, by decide⟩ (Nat.le_of_ble_eq_true rfl) ⟨by decide, by decide⟩ dX11_does_418 rfl (fun H locs hG => ?_)
      refine lv_if_eq (tgt := 428) hx hb dX11_does_421 (by decide) (fun c44 => ?_) (fun c44 => ?_)
      · have h := g_pos c44 h
        refine lv_iconst (v := (0 : Int32)) hx hb dX11_does_428 (by decide) ?_
        exact g_zret hc hG (Or.inl rfl) dX11_does_429 h
      · have h := g_neg c44 h
        refine lv_iconst (v := (1 : Int32)) hx hb dX11_does_424 (by decide) ?_
        refine lv_goto (tgt := 429) hx hb dX11_does_425 (by decide) ?_
        exact g_zret hc hG (Or.inr rfl) dX11_does_429 h
  · have h := g_pos c1 h
    refine lv_aload_n hx hb dX11_does_7 rfl (lv_at hl 0 rfl) ?_
    refine g_getR hc hG 54 62 flX11_40 rfl rfl rfl dX11_does_8 ?_
    refine lv_aload_n hx hb dX11_does_11 rfl (lv_at hl 0 rfl) ?_
    refine g_getI hc hG 54 flX11_237 rfl rfl dX11_does_12 ?_
    refine lv_iconst (v := (1 : Int32)) hx hb dX11_does_15 (by decide) ?_
    refine lv_isub hx hb dX11_does_16 ?_
    refine lv_aload_n hx hb dX11_does_17 rfl (lv_at hl 0 rfl) ?_
    refine g_getR hc hG 54 62 flX11_40 rfl rfl rfl dX11_does_18 ?_
    refine lv_aload_n hx hb dX11_does_21 rfl (lv_at hl 0 rfl) ?_
    refine g_getI hc hG 54 flX11_237 rfl rfl dX11_does_22 ?_
    refine lv_iconst (v := (1 : Int32)) hx hb dX11_does_25 (by decide) ?_
    refine lv_isub hx hb dX11_does_26 ?_
    obtain ⟨hi45, h⟩ := g_if h
    refine g_lald hc hG 62 72 ((((S.1 54 28) - (1 : Int32))).toNatClampNeg) rfl rfl hi45 rfl dX11_does_27 ?_
    refine lv_lconst (v := (0 : Int64)) hx hb dX11_does_28 (by decide) ?_
    refine W.lcmp hx hb dX11_does_29 ?_
    refine lv_if_ne (tgt := 37) hx hb dX11_does_30 (by decide) (fun c46 => ?_) (fun c46 => ?_)
    · have h := g_neg c46 h
      refine lv_iconst (v := (0 : Int32)) hx hb dX11_does_37 (by decide) ?_
      exact wX11_does_38 hc S ((S.1 54 28) - (1 : Int32)) (0 : Int32) _ _ _ (lv_sub hl [] rfl) hG h
    · have h := g_pos c46 h
      refine lv_iconst (v := (1 : Int32)) hx hb dX11_does_33 (by decide) ?_
      refine lv_goto (tgt := 38) hx hb dX11_does_34 (by decide) ?_
      exact wX11_does_38 hc S ((S.1 54 28) - (1 : Int32)) (1 : Int32) _ _ _ (lv_sub hl [] rfl) hG h
theorem mX11_does (l : Launch) (E : GE) {S : GS} {a1 : Int32} {res : (Int32 × GS)} (h : fX11_does S a1 = some res) : gMet l E yX11_does cX11_does 6 (some .boolean) rmX11_does [gR E 54, .int a1] S (some (.int res.1)) res.2 :=
  g_met (by decide) (Nat.le_of_ble_eq_true rfl) rfl fun p e s m below meth c H ls hc hG hl => wX11_does_0 hc S a1 H [] ls hl hG h
abbrev rmX11_holdsE : Room := { frames := 2, cells := 0, slots := 0, locals := 47 }
def fX11_holdsE_134 (k60 : GS → Int32 → Int32 → Option (Int32 × GS)) (S : GS) (t0 : Int32) (a1 : Int32) (a2 : Int32) : Option (Int32 × GS) := (if t0 = 0 then (some ((0 : Int32), S)) else glet (a2 + (1 : Int32)) fun v2 => (k60 S a1 v2))
set_option maxRecDepth 100000 in
set_option maxHeartbeats 4000000 in
theorem wX11_holdsE_134 {p : Program} {l : Launch} {e : Env} {s : State} {m : MethodId} {args : Array Value} {below : List Frame} {meth : Method} {c : Code} {E : GE} {res : (Int32 × GS)} {k60 : GS → Int32 → Int32 → Option (Int32 × GS)} (hc : GM E p s m args meth c RX11 cX11_holdsE 5 (some .boolean)) (hk60 : ∀ (S : GS) (a1 : Int32) (a2 : Int32) (H : Heap) (locs : List Loc) (ls : Array Slot), lv_has ls 5 [(0, gR E 54), (1, .int a1), (2, .int a2)] → GX E S H locs → k60 S a1 a2 = some res → W p l e rmX11_holdsE s m args below meth c H locs 0 0 (gZ E below args s (some (.int res.1)) res.2) (F0 m 60 ls [])) : ∀ (S : GS) (t0 : Int32) (a1 : Int32) (a2 : Int32) (H : Heap) (locs : List Loc) (ls : Array Slot), lv_has ls 5 [(0, gR E 54), (1, .int a1), (2, .int a2)] → GX E S H locs → fX11_holdsE_134 k60 S t0 a1 a2 = some res → W p l e rmX11_holdsE s m args below meth c H locs 0 0 (gZ E below args s (some (.int res.1)) res.2) (F0 m 134 ls [.int t0]) := by
  obtain ⟨hx, hb, -, -, -, hown, hts, -, -⟩ := id hc
  intro S t0 a1 a2 H locs ls hl hG h
  unfold fX11_holdsE_134 at h
  refine lv_istore (lv' := [(4, .int t0), (0, gR E 54), (1, .int a1), (2, .int a2)]) hx hb dX11_holdsE_134 hl (by decide) rfl (fun ls hl => ?_)
  refine lv_iload hx hb dX11_holdsE_136 (lv_at hl 0 rfl) ?_
  refine lv_if_ne (tgt := 143) hx hb dX11_holdsE_138 (by decide) (fun c1 => ?_) (fun c1 => ?_)
  · have h := g_neg c1 h
    obtain ⟨v2, ev2⟩ : ∃ y : Int32, y = (a2 + (1 : Int32)) := ⟨_, rfl⟩
    have h := g_let ev2 h
    refine lv_iinc (v := v2) (lv' := [(2, .int v2), (4, .int t0), (0, gR E 54), (1, .int a1)]) hx hb dX11_holdsE_143 hl (k := 3) rfl (by rw [ev2]; rfl) (by decide) rfl (fun ls hl => ?_)
    refine lv_goto (tgt := 60) hx hb dX11_holdsE_146 (by decide) ?_
    exact hk60 S a1 v2 _ _ _ (lv_sub hl [2, 3, 0] rfl) hG h
  · have h := g_pos c1 h
    refine lv_iconst (v := (0 : Int32)) hx hb dX11_holdsE_141 (by decide) ?_
    exact g_zret hc hG (Or.inl rfl) dX11_holdsE_142 h
def fX11_holdsE_131 (k60 : GS → Int32 → Int32 → Option (Int32 × GS)) (S : GS) (t1 : Int64) (a1 : Int32) (a2 : Int32) : Option (Int32 × GS) := gbd (fX11_puts S t1) fun r2 S3 => (fX11_holdsE_134 k60 S3 r2 a1 a2)
set_option maxRecDepth 100000 in
set_option maxHeartbeats 4000000 in
theorem wX11_holdsE_131 {p : Program} {l : Launch} {e : Env} {s : State} {m : MethodId} {args : Array Value} {below : List Frame} {meth : Method} {c : Code} {E : GE} {res : (Int32 × GS)} {k60 : GS → Int32 → Int32 → Option (Int32 × GS)} (hc : GM E p s m args meth c RX11 cX11_holdsE 5 (some .boolean)) (hk60 : ∀ (S : GS) (a1 : Int32) (a2 : Int32) (H : Heap) (locs : List Loc) (ls : Array Slot), lv_has ls 5 [(0, gR E 54), (1, .int a1), (2, .int a2)] → GX E S H locs → k60 S a1 a2 = some res → W p l e rmX11_holdsE s m args below meth c H locs 0 0 (gZ E below args s (some (.int res.1)) res.2) (F0 m 60 ls [])) : ∀ (S : GS) (t1 : Int64) (a1 : Int32) (a2 : Int32) (H : Heap) (locs : List Loc) (ls : Array Slot), lv_has ls 5 [(0, gR E 54), (1, .int a1), (2, .int a2)] → GX E S H locs → fX11_holdsE_131 k60 S t1 a1 a2 = some res → W p l e rmX11_holdsE s m args below meth c H locs 0 0 (gZ E below args s (some (.int res.1)) res.2) (F0 m 131 ls [.long t1, gR E 54]) := by
  obtain ⟨hx, hb, -, -, -, hown, hts, -, -⟩ := id hc
  intro S t1 a1 a2 H locs ls hl hG h
  unfold fX11_holdsE_131 at h
  obtain ⟨r2, S3, hm1, h⟩ := g_bd h
  refine g_callVi (As := [.long t1]) hc hG (mX11_puts l E hm1) mlX11_248 mcX11_puts miX11_puts rfl rfl rfl rfl hl.1 rfl rfl ⟨by decide, by decide⟩ (Nat.le_of_ble_eq_true rfl) ⟨by decide, by decide⟩ dX11_holdsE_131 rfl (fun H locs hG => ?_)
  exact wX11_holdsE_134 hc hk60 S3 r2 a1 a2 _ _ _ (lv_sub hl [0, 1, 2] rfl) hG h
def fX11_holdsE_60 : Nat → GS → Int32 → Int32 → Option (Int32 × GS)
  | 0, _, _, _ => none
  | n + 1, S, a1, a2 => (if gib a1 4 = true then (if (S.1 58 a1.toNatClampNeg) ≤ a2 then (if (lg_cmp (S.2.1 62 0) (0 : Int64)) = 0 then (some ((0 : Int32), S)) else (some ((1 : Int32), S))) else glet (((64 : Int32) * a1) + a2) fun v4 => (if gib v4 256 = true then (if (S.1 56 v4.toNatClampNeg) = (2 : Int32) then gbd (fX11_does S (S.1 57 v4.toNatClampNeg)) fun r10 S11 => (fX11_holdsE_134 (fX11_holdsE_60 n) S11 r10 a1 a2) else (if (S.1 56 v4.toNatClampNeg) = 0 then (fX11_holdsE_131 (fX11_holdsE_60 n) S (((S.1 57 v4.toNatClampNeg)).toInt64) a1 a2) else (if gib (S.1 57 v4.toNatClampNeg) 8 = true then (fX11_holdsE_131 (fX11_holdsE_60 n) S (S.2.1 61 ((S.1 57 v4.toNatClampNeg)).toNatClampNeg) a1 a2) else none))) else none)) else none)
set_option maxRecDepth 100000 in
set_option maxHeartbeats 4000000 in
theorem wX11_holdsE_60 {p : Program} {l : Launch} {e : Env} {s : State} {m : MethodId} {args : Array Value} {below : List Frame} {meth : Method} {c : Code} {E : GE} {res : (Int32 × GS)} (hc : GM E p s m args meth c RX11 cX11_holdsE 5 (some .boolean)) : ∀ (n : Nat), ∀ (S : GS) (a1 : Int32) (a2 : Int32) (H : Heap) (locs : List Loc) (ls : Array Slot), lv_has ls 5 [(0, gR E 54), (1, .int a1), (2, .int a2)] → GX E S H locs → fX11_holdsE_60 n S a1 a2 = some res → W p l e rmX11_holdsE s m args below meth c H locs 0 0 (gZ E below args s (some (.int res.1)) res.2) (F0 m 60 ls []) := by
  obtain ⟨hx, hb, -, -, -, hown, hts, -, -⟩ := id hc
  intro n
  induction n with
  | zero => intro S a1 a2 H locs ls hl hG h; cases h
  | succ n ih =>
    intro S a1 a2 H locs ls hl hG h
    rw [fX11_holdsE_60] at h
    refine lv_iload_n hx hb dX11_holdsE_60 rfl (lv_at hl 2 rfl) ?_
    refine lv_aload_n hx hb dX11_holdsE_61 rfl (lv_at hl 0 rfl) ?_
    refine g_getR hc hG 54 58 flX11_19 rfl rfl rfl dX11_holdsE_62 ?_
    refine lv_iload_n hx hb dX11_holdsE_65 rfl (lv_at hl 1 rfl) ?_
    obtain ⟨hi1, h⟩ := g_if h
    refine g_iald hc hG 58 4 (a1.toNatClampNeg) rfl rfl hi1 rfl dX11_holdsE_66 ?_
    refine lv_icmp_ge (tgt := 149) hx hb dX11_holdsE_67 (by decide) (fun c2 => ?_) (fun c2 => ?_)
    · have h := g_pos c2 h
      refine lv_aload_n hx hb dX11_holdsE_149 rfl (lv_at hl 0 rfl) ?_
      refine g_getR hc hG 54 62 flX11_40 rfl rfl rfl dX11_holdsE_150 ?_
      refine lv_iconst (v := (0 : Int32)) hx hb dX11_holdsE_153 (by decide) ?_
      refine g_lald hc hG 62 72 (0) rfl rfl (by decide) (by decide) dX11_holdsE_154 ?_
      refine lv_lconst (v := (0 : Int64)) hx hb dX11_holdsE_155 (by decide) ?_
      refine W.lcmp hx hb dX11_holdsE_156 ?_
      refine lv_if_eq (tgt := 164) hx hb dX11_holdsE_157 (by decide) (fun c3 => ?_) (fun c3 => ?_)
      · have h := g_pos c3 h
        refine lv_iconst (v := (0 : Int32)) hx hb dX11_holdsE_164 (by decide) ?_
        exact g_zret hc hG (Or.inl rfl) dX11_holdsE_165 h
      · have h := g_neg c3 h
        refine lv_iconst (v := (1 : Int32)) hx hb dX11_holdsE_160 (by decide) ?_
        refine lv_goto (tgt := 165) hx hb dX11_holdsE_161 (by decide) ?_
        exact g_zret hc hG (Or.inr rfl) dX11_holdsE_165 h
    · have h := g_neg c2 h
      refine lv_bipush (v := (64 : Int32)) hx hb dX11_holdsE_70 (by decide) ?_
      refine lv_iload_n hx hb dX11_holdsE_72 rfl (lv_at hl 1 rfl) ?_
      refine lv_imul hx hb dX11_holdsE_73 ?_
      refine lv_iload_n hx hb dX11_holdsE_74 rfl (lv_at hl 2 rfl) ?_
      refine lv_iadd hx hb dX11_holdsE_75 ?_
      refine lv_topi (fun v4 ev4 => ?_)
      have h := g_let ev4 h
      refine lv_istore_n (lv' := [(3, .int v4), (0, gR E 54), (1, .int a1), (2, .int a2)]) hx hb dX11_holdsE_76 rfl hl (by decide) rfl (fun ls hl => ?_)
      refine lv_aload_n hx hb dX11_holdsE_77 rfl (lv_at hl 1 rfl) ?_
      refine g_getR hc hG 54 56 flX11_13 rfl rfl rfl dX11_holdsE_78 ?_
      refine lv_iload_n hx hb dX11_holdsE_81 rfl (lv_at hl 0 rfl) ?_
      obtain ⟨hi5, h⟩ := g_if h
      refine g_iald hc hG 56 256 (v4.toNatClampNeg) rfl rfl hi5 rfl dX11_holdsE_82 ?_
      refine lv_iconst (v := (2 : Int32)) hx hb dX11_holdsE_83 (by decide) ?_
      refine lv_icmp_ne (tgt := 100) hx hb dX11_holdsE_84 (by decide) (fun c6 => ?_) (fun c6 => ?_)
      · have h := g_neg c6 h
        refine lv_aload_n hx hb dX11_holdsE_100 rfl (lv_at hl 1 rfl) ?_
        refine lv_aload_n hx hb dX11_holdsE_101 rfl (lv_at hl 1 rfl) ?_
        refine g_getR hc hG 54 56 flX11_13 rfl rfl rfl dX11_holdsE_102 ?_
        refine lv_iload_n hx hb dX11_holdsE_105 rfl (lv_at hl 0 rfl) ?_
        refine g_iald hc hG 56 256 (v4.toNatClampNeg) rfl rfl hi5 rfl dX11_holdsE_106 ?_
        refine lv_if_ne (tgt := 120) hx hb dX11_holdsE_107 (by decide) (fun c7 => ?_) (fun c7 => ?_)
        · have h := g_neg c7 h
          refine lv_aload_n hx hb dX11_holdsE_120 rfl (lv_at hl 1 rfl) ?_
          refine g_getR hc hG 54 61 flX11_36 rfl rfl rfl dX11_holdsE_121 ?_
          refine lv_aload_n hx hb dX11_holdsE_124 rfl (lv_at hl 1 rfl) ?_
          refine g_getR hc hG 54 57 flX11_16 rfl rfl rfl dX11_holdsE_125 ?_
          refine lv_iload_n hx hb dX11_holdsE_128 rfl (lv_at hl 0 rfl) ?_
          refine g_iald hc hG 57 256 (v4.toNatClampNeg) rfl rfl hi5 rfl dX11_holdsE_129 ?_
          obtain ⟨hi8, h⟩ := g_if h
          refine g_lald hc hG 61 8 (((S.1 57 v4.toNatClampNeg)).toNatClampNeg) rfl rfl hi8 rfl dX11_holdsE_130 ?_
          exact wX11_holdsE_131 hc ih S (S.2.1 61 ((S.1 57 v4.toNatClampNeg)).toNatClampNeg) a1 a2 _ _ _ (lv_sub hl [1, 2, 3] rfl) hG h
        · have h := g_pos c7 h
          refine lv_aload_n hx hb dX11_holdsE_110 rfl (lv_at hl 1 rfl) ?_
          refine g_getR hc hG 54 57 flX11_16 rfl rfl rfl dX11_holdsE_111 ?_
          refine lv_iload_n hx hb dX11_holdsE_114 rfl (lv_at hl 0 rfl) ?_
          refine g_iald hc hG 57 256 (v4.toNatClampNeg) rfl rfl hi5 rfl dX11_holdsE_115 ?_
          refine lv_i2l (v := (((S.1 57 v4.toNatClampNeg)).toInt64)) hx hb dX11_holdsE_116 rfl ?_
          refine lv_goto (tgt := 131) hx hb dX11_holdsE_117 (by decide) ?_
          exact wX11_holdsE_131 hc ih S (((S.1 57 v4.toNatClampNeg)).toInt64) a1 a2 _ _ _ (lv_sub hl [1, 2, 3] rfl) hG h
      · have h := g_pos c6 h
        refine lv_aload_n hx hb dX11_holdsE_87 rfl (lv_at hl 1 rfl) ?_
        refine lv_aload_n hx hb dX11_holdsE_88 rfl (lv_at hl 1 rfl) ?_
        refine g_getR hc hG 54 57 flX11_16 rfl rfl rfl dX11_holdsE_89 ?_
        refine lv_iload_n hx hb dX11_holdsE_92 rfl (lv_at hl 0 rfl) ?_
        refine g_iald hc hG 57 256 (v4.toNatClampNeg) rfl rfl hi5 rfl dX11_holdsE_93 ?_
        obtain ⟨r10, S11, hm9, h⟩ := g_bd h
        refine g_callVi (As := [.int (S.1 57 v4.toNatClampNeg)]) hc hG (mX11_does l E hm9) mlX11_258 mcX11_does miX11_does rfl rfl rfl rfl hl.1 rfl rfl ⟨by decide, by decide⟩ (Nat.le_of_ble_eq_true rfl) ⟨by decide, by decide⟩ dX11_holdsE_94 rfl (fun H locs hG => ?_)
        refine lv_goto (tgt := 134) hx hb dX11_holdsE_97 (by decide) ?_
        exact wX11_holdsE_134 hc ih S11 r10 a1 a2 _ _ _ (lv_sub hl [1, 2, 3] rfl) hG h
def fX11_holdsE (S : GS) (a1 : Int32) : Option (Int32 × GS) := (if gib a1 4 = true then (if (S.1 59 a1.toNatClampNeg) = 0 then (if (lg_cmp (S.2.1 61 3) (1 : Int64)) = 0 then (if 0 < (lg_cmp (S.2.1 61 0) (S.2.1 61 1)) then (some ((1 : Int32), S)) else (if (lg_cmp (S.2.1 61 2) (1 : Int64)) = 0 then (some ((1 : Int32), S)) else (some ((0 : Int32), S)))) else (some ((0 : Int32), S))) else glet (gsi S 54 28 (0 : Int32)) fun S3 => glet (0 : Int32) fun v4 => (fX11_holdsE_60 FU S3 a1 v4)) else none)
set_option maxRecDepth 100000 in
set_option maxHeartbeats 4000000 in
theorem wX11_holdsE_0 {p : Program} {l : Launch} {e : Env} {s : State} {m : MethodId} {args : Array Value} {below : List Frame} {meth : Method} {c : Code} {E : GE} {res : (Int32 × GS)} (hc : GM E p s m args meth c RX11 cX11_holdsE 5 (some .boolean)) : ∀ (S : GS) (a1 : Int32) (H : Heap) (locs : List Loc) (ls : Array Slot), lv_has ls 5 [(0, gR E 54), (1, .int a1)] → GX E S H locs → fX11_holdsE S a1 = some res → W p l e rmX11_holdsE s m args below meth c H locs 0 0 (gZ E below args s (some (.int res.1)) res.2) (F0 m 0 ls []) := by
  obtain ⟨hx, hb, -, -, -, hown, hts, -, -⟩ := id hc
  intro S a1 H locs ls hl hG h
  unfold fX11_holdsE at h
  refine lv_aload_n hx hb dX11_holdsE_0 rfl (lv_at hl 0 rfl) ?_
  refine g_getR hc hG 54 59 flX11_22 rfl rfl rfl dX11_holdsE_1 ?_
  refine lv_iload_n hx hb dX11_holdsE_4 rfl (lv_at hl 1 rfl) ?_
  obtain ⟨hi1, h⟩ := g_if h
  refine g_zald hc hG 59 4 (a1.toNatClampNeg) rfl rfl hi1 rfl dX11_holdsE_5 ?_
  refine lv_if_ne (tgt := 53) hx hb dX11_holdsE_6 (by decide) (fun c2 => ?_) (fun c2 => ?_)
  · have h := g_neg c2 h
    refine lv_aload_n hx hb dX11_holdsE_53 rfl (lv_at hl 0 rfl) ?_
    refine lv_iconst (v := (0 : Int32)) hx hb dX11_holdsE_54 (by decide) ?_
    refine g_putI hc hG 54 fpX11_237 rfl rfl rfl rfl dX11_holdsE_55 (fun S3 H locs eS3 hG => ?_)
    have h := g_let eS3 h
    refine lv_iconst (v := (0 : Int32)) hx hb dX11_holdsE_58 (by decide) ?_
    refine lv_topi (fun v4 ev4 => ?_)
    have h := g_let ev4 h
    refine lv_istore_n (lv' := [(2, .int v4), (0, gR E 54), (1, .int a1)]) hx hb dX11_holdsE_59 rfl hl (by decide) rfl (fun ls hl => ?_)
    exact wX11_holdsE_60 hc FU S3 a1 v4 _ _ _ (lv_sub hl [1, 2, 0] rfl) hG h
  · have h := g_pos c2 h
    refine lv_aload_n hx hb dX11_holdsE_9 rfl (lv_at hl 0 rfl) ?_
    refine g_getR hc hG 54 61 flX11_36 rfl rfl rfl dX11_holdsE_10 ?_
    refine lv_iconst (v := (3 : Int32)) hx hb dX11_holdsE_13 (by decide) ?_
    refine g_lald hc hG 61 8 (3) rfl rfl (by decide) (by decide) dX11_holdsE_14 ?_
    refine lv_lconst (v := (1 : Int64)) hx hb dX11_holdsE_15 (by decide) ?_
    refine W.lcmp hx hb dX11_holdsE_16 ?_
    refine lv_if_ne (tgt := 51) hx hb dX11_holdsE_17 (by decide) (fun c5 => ?_) (fun c5 => ?_)
    · have h := g_neg c5 h
      refine lv_iconst (v := (0 : Int32)) hx hb dX11_holdsE_51 (by decide) ?_
      exact g_zret hc hG (Or.inl rfl) dX11_holdsE_52 h
    · have h := g_pos c5 h
      refine lv_aload_n hx hb dX11_holdsE_20 rfl (lv_at hl 0 rfl) ?_
      refine g_getR hc hG 54 61 flX11_36 rfl rfl rfl dX11_holdsE_21 ?_
      refine lv_iconst (v := (0 : Int32)) hx hb dX11_holdsE_24 (by decide) ?_
      refine g_lald hc hG 61 8 (0) rfl rfl (by decide) (by decide) dX11_holdsE_25 ?_
      refine lv_aload_n hx hb dX11_holdsE_26 rfl (lv_at hl 0 rfl) ?_
      refine g_getR hc hG 54 61 flX11_36 rfl rfl rfl dX11_holdsE_27 ?_
      refine lv_iconst (v := (1 : Int32)) hx hb dX11_holdsE_30 (by decide) ?_
      refine g_lald hc hG 61 8 (1) rfl rfl (by decide) (by decide) dX11_holdsE_31 ?_
      refine W.lcmp hx hb dX11_holdsE_32 ?_
      refine lv_if_gt (tgt := 47) hx hb dX11_holdsE_33 (by decide) (fun c6 => ?_) (fun c6 => ?_)
      · have h := g_pos c6 h
        refine lv_iconst (v := (1 : Int32)) hx hb dX11_holdsE_47 (by decide) ?_
        refine lv_goto (tgt := 52) hx hb dX11_holdsE_48 (by decide) ?_
        exact g_zret hc hG (Or.inr rfl) dX11_holdsE_52 h
      · have h := g_neg c6 h
        refine lv_aload_n hx hb dX11_holdsE_36 rfl (lv_at hl 0 rfl) ?_
        refine g_getR hc hG 54 61 flX11_36 rfl rfl rfl dX11_holdsE_37 ?_
        refine lv_iconst (v := (2 : Int32)) hx hb dX11_holdsE_40 (by decide) ?_
        refine g_lald hc hG 61 8 (2) rfl rfl (by decide) (by decide) dX11_holdsE_41 ?_
        refine lv_lconst (v := (1 : Int64)) hx hb dX11_holdsE_42 (by decide) ?_
        refine W.lcmp hx hb dX11_holdsE_43 ?_
        refine lv_if_ne (tgt := 51) hx hb dX11_holdsE_44 (by decide) (fun c7 => ?_) (fun c7 => ?_)
        · have h := g_neg c7 h
          refine lv_iconst (v := (0 : Int32)) hx hb dX11_holdsE_51 (by decide) ?_
          exact g_zret hc hG (Or.inl rfl) dX11_holdsE_52 h
        · have h := g_pos c7 h
          refine lv_iconst (v := (1 : Int32)) hx hb dX11_holdsE_47 (by decide) ?_
          refine lv_goto (tgt := 52) hx hb dX11_holdsE_48 (by decide) ?_
          exact g_zret hc hG (Or.inr rfl) dX11_holdsE_52 h
theorem mX11_holdsE (l : Launch) (E : GE) {S : GS} {a1 : Int32} {res : (Int32 × GS)} (h : fX11_holdsE S a1 = some res) : gMet l E yX11_holdsE cX11_holdsE 5 (some .boolean) rmX11_holdsE [gR E 54, .int a1] S (some (.int res.1)) res.2 :=
  g_met (by decide) (Nat.le_of_ble_eq_true rfl) rfl fun p e s m below meth c H ls hc hG hl => wX11_holdsE_0 hc S a1 H [] ls hl hG h
abbrev rmX11_days : Room := { frames := 0, cells := 0, slots := 0, locals := 0 }
def fX11_days (S : GS) (a1 : Int32) : Option (Int32 × GS) := glet (gsi S 54 0 (0 : Int32)) fun S1 => (if a1 < 0 then (some ((-1 : Int32), S1)) else (if (9999 : Int32) < a1 then (some ((-1 : Int32), S1)) else (if ((S1.1 54 29) + a1) ≤ (9999 : Int32) then glet (gsi S1 54 29 ((S1.1 54 29) + a1)) fun S5 => (some ((S5.1 54 29), S5)) else (some ((-1 : Int32), S1)))))
set_option maxRecDepth 100000 in
set_option maxHeartbeats 4000000 in
theorem wX11_days_0 {p : Program} {l : Launch} {e : Env} {s : State} {m : MethodId} {args : Array Value} {below : List Frame} {meth : Method} {c : Code} {E : GE} {res : (Int32 × GS)} (hc : GM E p s m args meth c RX11 cX11_days 2 (some .int)) : ∀ (S : GS) (a1 : Int32) (H : Heap) (locs : List Loc) (ls : Array Slot), lv_has ls 2 [(0, gR E 54), (1, .int a1)] → GX E S H locs → fX11_days S a1 = some res → W p l e rmX11_days s m args below meth c H locs 0 0 (gZ E below args s (some (.int res.1)) res.2) (F0 m 0 ls []) := by
  obtain ⟨hx, hb, -, -, -, hown, hts, -, -⟩ := id hc
  intro S a1 H locs ls hl hG h
  unfold fX11_days at h
  refine lv_aload_n hx hb dX11_days_0 rfl (lv_at hl 0 rfl) ?_
  refine lv_iconst (v := (0 : Int32)) hx hb dX11_days_1 (by decide) ?_
  refine g_putI hc hG 54 fpX11_115 rfl rfl rfl rfl dX11_days_2 (fun S1 H locs eS1 hG => ?_)
  have h := g_let eS1 h
  refine lv_iload_n hx hb dX11_days_5 rfl (lv_at hl 1 rfl) ?_
  refine lv_if_lt (tgt := 28) hx hb dX11_days_6 (by decide) (fun c2 => ?_) (fun c2 => ?_)
  · have h := g_pos c2 h
    refine lv_iconst (v := (-1 : Int32)) hx hb dX11_days_28 (by decide) ?_
    exact g_iret hc hG dX11_days_29 h
  · have h := g_neg c2 h
    refine lv_iload_n hx hb dX11_days_9 rfl (lv_at hl 1 rfl) ?_
    refine lv_sipush (v := (9999 : Int32)) hx hb dX11_days_10 (by decide) ?_
    refine lv_icmp_gt (tgt := 28) hx hb dX11_days_13 (by decide) (fun c3 => ?_) (fun c3 => ?_)
    · have h := g_pos c3 h
      refine lv_iconst (v := (-1 : Int32)) hx hb dX11_days_28 (by decide) ?_
      exact g_iret hc hG dX11_days_29 h
    · have h := g_neg c3 h
      refine lv_aload_n hx hb dX11_days_16 rfl (lv_at hl 0 rfl) ?_
      refine g_getI hc hG 54 flX11_261 rfl rfl dX11_days_17 ?_
      refine lv_iload_n hx hb dX11_days_20 rfl (lv_at hl 1 rfl) ?_
      refine lv_iadd hx hb dX11_days_21 ?_
      refine lv_sipush (v := (9999 : Int32)) hx hb dX11_days_22 (by decide) ?_
      refine lv_icmp_le (tgt := 30) hx hb dX11_days_25 (by decide) (fun c4 => ?_) (fun c4 => ?_)
      · have h := g_pos c4 h
        refine lv_aload_n hx hb dX11_days_30 rfl (lv_at hl 0 rfl) ?_
        refine lv_dup hx hb dX11_days_31 rfl ?_
        refine g_getI hc hG 54 flX11_261 rfl rfl dX11_days_32 ?_
        refine lv_iload_n hx hb dX11_days_35 rfl (lv_at hl 1 rfl) ?_
        refine lv_iadd hx hb dX11_days_36 ?_
        refine g_putI hc hG 54 fpX11_261 rfl rfl rfl rfl dX11_days_37 (fun S5 H locs eS5 hG => ?_)
        have h := g_let eS5 h
        refine lv_aload_n hx hb dX11_days_40 rfl (lv_at hl 0 rfl) ?_
        refine g_getI hc hG 54 flX11_261 rfl rfl dX11_days_41 ?_
        exact g_iret hc hG dX11_days_44 h
      · have h := g_neg c4 h
        refine lv_iconst (v := (-1 : Int32)) hx hb dX11_days_28 (by decide) ?_
        exact g_iret hc hG dX11_days_29 h
theorem mX11_days (l : Launch) (E : GE) {S : GS} {a1 : Int32} {res : (Int32 × GS)} (h : fX11_days S a1 = some res) : gMet l E yX11_days cX11_days 2 (some .int) rmX11_days [gR E 54, .int a1] S (some (.int res.1)) res.2 :=
  g_met (by decide) (Nat.le_of_ble_eq_true rfl) rfl fun p e s m below meth c H ls hc hG hl => wX11_days_0 hc S a1 H [] ls hl hG h
abbrev rmX11_court : Room := { frames := 0, cells := 0, slots := 0, locals := 0 }
def fX11_court (S : GS) (a1 : Int32) (a2 : Int32) : Option (Int32 × GS) := glet (gsi S 54 0 (0 : Int32)) fun S1 => (if a1 < 0 then (some ((-1 : Int32), S1)) else (if (9 : Int32) < a1 then (some ((-1 : Int32), S1)) else (if a2 < 0 then (some ((-1 : Int32), S1)) else (if (3 : Int32) < a2 then (some ((-1 : Int32), S1)) else (if (S1.1 54 30) = (6 : Int32) then (some ((-1 : Int32), S1)) else (if gib (S1.1 54 30) 6 = true then glet (gsi S1 63 (((S1.1 54 30)).toNatClampNeg) a1) fun S8 => (if gib (S8.1 54 30) 6 = true then glet (gsi S8 64 (((S8.1 54 30)).toNatClampNeg) a2) fun S10 => glet (gsi S10 54 30 ((S10.1 54 30) + (1 : Int32))) fun S11 => (some (((S11.1 54 30) - (1 : Int32)), S11)) else none) else none))))))
set_option maxRecDepth 100000 in
set_option maxHeartbeats 4000000 in
theorem wX11_court_0 {p : Program} {l : Launch} {e : Env} {s : State} {m : MethodId} {args : Array Value} {below : List Frame} {meth : Method} {c : Code} {E : GE} {res : (Int32 × GS)} (hc : GM E p s m args meth c RX11 cX11_court 3 (some .int)) : ∀ (S : GS) (a1 : Int32) (a2 : Int32) (H : Heap) (locs : List Loc) (ls : Array Slot), lv_has ls 3 [(0, gR E 54), (1, .int a1), (2, .int a2)] → GX E S H locs → fX11_court S a1 a2 = some res → W p l e rmX11_court s m args below meth c H locs 0 0 (gZ E below args s (some (.int res.1)) res.2) (F0 m 0 ls []) := by
  obtain ⟨hx, hb, -, -, -, hown, hts, -, -⟩ := id hc
  intro S a1 a2 H locs ls hl hG h
  unfold fX11_court at h
  refine lv_aload_n hx hb dX11_court_0 rfl (lv_at hl 0 rfl) ?_
  refine lv_iconst (v := (0 : Int32)) hx hb dX11_court_1 (by decide) ?_
  refine g_putI hc hG 54 fpX11_115 rfl rfl rfl rfl dX11_court_2 (fun S1 H locs eS1 hG => ?_)
  have h := g_let eS1 h
  refine lv_iload_n hx hb dX11_court_5 rfl (lv_at hl 1 rfl) ?_
  refine lv_if_lt (tgt := 33) hx hb dX11_court_6 (by decide) (fun c2 => ?_) (fun c2 => ?_)
  · have h := g_pos c2 h
    refine lv_iconst (v := (-1 : Int32)) hx hb dX11_court_33 (by decide) ?_
    exact g_iret hc hG dX11_court_34 h
  · have h := g_neg c2 h
    refine lv_iload_n hx hb dX11_court_9 rfl (lv_at hl 1 rfl) ?_
    refine lv_bipush (v := (9 : Int32)) hx hb dX11_court_10 (by decide) ?_
    refine lv_icmp_gt (tgt := 33) hx hb dX11_court_12 (by decide) (fun c3 => ?_) (fun c3 => ?_)
    · have h := g_pos c3 h
      refine lv_iconst (v := (-1 : Int32)) hx hb dX11_court_33 (by decide) ?_
      exact g_iret hc hG dX11_court_34 h
    · have h := g_neg c3 h
      refine lv_iload_n hx hb dX11_court_15 rfl (lv_at hl 2 rfl) ?_
      refine lv_if_lt (tgt := 33) hx hb dX11_court_16 (by decide) (fun c4 => ?_) (fun c4 => ?_)
      · have h := g_pos c4 h
        refine lv_iconst (v := (-1 : Int32)) hx hb dX11_court_33 (by decide) ?_
        exact g_iret hc hG dX11_court_34 h
      · have h := g_neg c4 h
        refine lv_iload_n hx hb dX11_court_19 rfl (lv_at hl 2 rfl) ?_
        refine lv_iconst (v := (3 : Int32)) hx hb dX11_court_20 (by decide) ?_
        refine lv_icmp_gt (tgt := 33) hx hb dX11_court_21 (by decide) (fun c5 => ?_) (fun c5 => ?_)
        · have h := g_pos c5 h
          refine lv_iconst (v := (-1 : Int32)) hx hb dX11_court_33 (by decide) ?_
          exact g_iret hc hG dX11_court_34 h
        · have h := g_neg c5 h
          refine lv_aload_n hx hb dX11_court_24 rfl (lv_at hl 0 rfl) ?_
          refine g_getI hc hG 54 flX11_264 rfl rfl dX11_court_25 ?_
          refine lv_bipush (v := (6 : Int32)) hx hb dX11_court_28 (by decide) ?_
          refine lv_icmp_ne (tgt := 35) hx hb dX11_court_30 (by decide) (fun c6 => ?_) (fun c6 => ?_)
          · have h := g_neg c6 h
            refine lv_aload_n hx hb dX11_court_35 rfl (lv_at hl 0 rfl) ?_
            refine g_getR hc hG 54 63 flX11_43 rfl rfl rfl dX11_court_36 ?_
            refine lv_aload_n hx hb dX11_court_39 rfl (lv_at hl 0 rfl) ?_
            refine g_getI hc hG 54 flX11_264 rfl rfl dX11_court_40 ?_
            refine lv_iload_n hx hb dX11_court_43 rfl (lv_at hl 1 rfl) ?_
            obtain ⟨hi7, h⟩ := g_if h
            refine g_iast hc hG 63 6 (((S1.1 54 30)).toNatClampNeg) rfl rfl hi7 rfl dX11_court_44 (fun S8 H locs eS8 hG => ?_)
            have h := g_let eS8 h
            refine lv_aload_n hx hb dX11_court_45 rfl (lv_at hl 0 rfl) ?_
            refine g_getR hc hG 54 64 flX11_46 rfl rfl rfl dX11_court_46 ?_
            refine lv_aload_n hx hb dX11_court_49 rfl (lv_at hl 0 rfl) ?_
            refine g_getI hc hG 54 flX11_264 rfl rfl dX11_court_50 ?_
            refine lv_iload_n hx hb dX11_court_53 rfl (lv_at hl 2 rfl) ?_
            obtain ⟨hi9, h⟩ := g_if h
            refine g_iast hc hG 64 6 (((S8.1 54 30)).toNatClampNeg) rfl rfl hi9 rfl dX11_court_54 (fun S10 H locs eS10 hG => ?_)
            have h := g_let eS10 h
            refine lv_aload_n hx hb dX11_court_55 rfl (lv_at hl 0 rfl) ?_
            refine lv_dup hx hb dX11_court_56 rfl ?_
            refine g_getI hc hG 54 flX11_264 rfl rfl dX11_court_57 ?_
            refine lv_iconst (v := (1 : Int32)) hx hb dX11_court_60 (by decide) ?_
            refine lv_iadd hx hb dX11_court_61 ?_
            refine g_putI hc hG 54 fpX11_264 rfl rfl rfl rfl dX11_court_62 (fun S11 H locs eS11 hG => ?_)
            have h := g_let eS11 h
            refine lv_aload_n hx hb dX11_court_65 rfl (lv_at hl 0 rfl) ?_
            refine g_getI hc hG 54 flX11_264 rfl rfl dX11_court_66 ?_
            refine lv_iconst (v := (1 : Int32)) hx hb dX11_court_69 (by decide) ?_
            refine lv_isub hx hb dX11_court_70 ?_
            exact g_iret hc hG dX11_court_71 h
          · have h := g_pos c6 h
            refine lv_iconst (v := (-1 : Int32)) hx hb dX11_court_33 (by decide) ?_
            exact g_iret hc hG dX11_court_34 h
theorem mX11_court (l : Launch) (E : GE) {S : GS} {a1 : Int32} {a2 : Int32} {res : (Int32 × GS)} (h : fX11_court S a1 a2 = some res) : gMet l E yX11_court cX11_court 3 (some .int) rmX11_court [gR E 54, .int a1, .int a2] S (some (.int res.1)) res.2 :=
  g_met (by decide) (Nat.le_of_ble_eq_true rfl) rfl fun p e s m below meth c H ls hc hG hl => wX11_court_0 hc S a1 a2 H [] ls hl hG h
abbrev rmX11_point : Room := { frames := 0, cells := 0, slots := 0, locals := 0 }
def fX11_point (S : GS) : Option (Int32 × GS) := glet (gsi S 54 0 (0 : Int32)) fun S1 => (if (S1.1 54 33) = (12 : Int32) then (some ((-1 : Int32), S1)) else glet (gsi S1 54 33 ((S1.1 54 33) + (1 : Int32))) fun S3 => (some (((S3.1 54 33) - (1 : Int32)), S3)))
set_option maxRecDepth 100000 in
set_option maxHeartbeats 4000000 in
theorem wX11_point_0 {p : Program} {l : Launch} {e : Env} {s : State} {m : MethodId} {args : Array Value} {below : List Frame} {meth : Method} {c : Code} {E : GE} {res : (Int32 × GS)} (hc : GM E p s m args meth c RX11 cX11_point 1 (some .int)) : ∀ (S : GS) (H : Heap) (locs : List Loc) (ls : Array Slot), lv_has ls 1 [(0, gR E 54)] → GX E S H locs → fX11_point S = some res → W p l e rmX11_point s m args below meth c H locs 0 0 (gZ E below args s (some (.int res.1)) res.2) (F0 m 0 ls []) := by
  obtain ⟨hx, hb, -, -, -, hown, hts, -, -⟩ := id hc
  intro S H locs ls hl hG h
  unfold fX11_point at h
  refine lv_aload_n hx hb dX11_point_0 rfl (lv_at hl 0 rfl) ?_
  refine lv_iconst (v := (0 : Int32)) hx hb dX11_point_1 (by decide) ?_
  refine g_putI hc hG 54 fpX11_115 rfl rfl rfl rfl dX11_point_2 (fun S1 H locs eS1 hG => ?_)
  have h := g_let eS1 h
  refine lv_aload_n hx hb dX11_point_5 rfl (lv_at hl 0 rfl) ?_
  refine g_getI hc hG 54 flX11_267 rfl rfl dX11_point_6 ?_
  refine lv_bipush (v := (12 : Int32)) hx hb dX11_point_9 (by decide) ?_
  refine lv_icmp_ne (tgt := 16) hx hb dX11_point_11 (by decide) (fun c2 => ?_) (fun c2 => ?_)
  · have h := g_neg c2 h
    refine lv_aload_n hx hb dX11_point_16 rfl (lv_at hl 0 rfl) ?_
    refine lv_dup hx hb dX11_point_17 rfl ?_
    refine g_getI hc hG 54 flX11_267 rfl rfl dX11_point_18 ?_
    refine lv_iconst (v := (1 : Int32)) hx hb dX11_point_21 (by decide) ?_
    refine lv_iadd hx hb dX11_point_22 ?_
    refine g_putI hc hG 54 fpX11_267 rfl rfl rfl rfl dX11_point_23 (fun S3 H locs eS3 hG => ?_)
    have h := g_let eS3 h
    refine lv_aload_n hx hb dX11_point_26 rfl (lv_at hl 0 rfl) ?_
    refine g_getI hc hG 54 flX11_267 rfl rfl dX11_point_27 ?_
    refine lv_iconst (v := (1 : Int32)) hx hb dX11_point_30 (by decide) ?_
    refine lv_isub hx hb dX11_point_31 ?_
    exact g_iret hc hG dX11_point_32 h
  · have h := g_pos c2 h
    refine lv_iconst (v := (-1 : Int32)) hx hb dX11_point_14 (by decide) ?_
    exact g_iret hc hG dX11_point_15 h
theorem mX11_point (l : Launch) (E : GE) {S : GS} {res : (Int32 × GS)} (h : fX11_point S = some res) : gMet l E yX11_point cX11_point 1 (some .int) rmX11_point [gR E 54] S (some (.int res.1)) res.2 :=
  g_met (by decide) (Nat.le_of_ble_eq_true rfl) rfl fun p e s m below meth c H ls hc hG hl => wX11_point_0 hc S H [] ls hl hG h
abbrev rmX11_isPoint : Room := { frames := 0, cells := 0, slots := 0, locals := 0 }
def fX11_isPoint (S : GS) (a1 : Int32) : Option Int32 := (if a1 < 0 then (some (0 : Int32)) else (if (S.1 54 33) ≤ a1 then (some (0 : Int32)) else (some (1 : Int32))))
set_option maxRecDepth 100000 in
set_option maxHeartbeats 4000000 in
theorem wX11_isPoint_0 {p : Program} {l : Launch} {e : Env} {s : State} {m : MethodId} {args : Array Value} {below : List Frame} {meth : Method} {c : Code} {E : GE} {res : Int32} (hc : GM E p s m args meth c RX11 cX11_isPoint 2 (some .boolean)) : ∀ (S : GS) (a1 : Int32) (H : Heap) (locs : List Loc) (ls : Array Slot), lv_has ls 2 [(0, gR E 54), (1, .int a1)] → GX E S H locs → fX11_isPoint S a1 = some res → W p l e rmX11_isPoint s m args below meth c H locs 0 0 (gZ E below args s (some (.int res)) S) (F0 m 0 ls []) := by
  obtain ⟨hx, hb, -, -, -, hown, hts, -, -⟩ := id hc
  intro S a1 H locs ls hl hG h
  unfold fX11_isPoint at h
  refine lv_iload_n hx hb dX11_isPoint_0 rfl (lv_at hl 1 rfl) ?_
  refine lv_if_lt (tgt := 16) hx hb dX11_isPoint_1 (by decide) (fun c1 => ?_) (fun c1 => ?_)
  · have h := g_pos c1 h
    refine lv_iconst (v := (0 : Int32)) hx hb dX11_isPoint_16 (by decide) ?_
    exact g_zretp hc hG (Or.inl rfl) dX11_isPoint_17 h
  · have h := g_neg c1 h
    refine lv_iload_n hx hb dX11_isPoint_4 rfl (lv_at hl 1 rfl) ?_
    refine lv_aload_n hx hb dX11_isPoint_5 rfl (lv_at hl 0 rfl) ?_
    refine g_getI hc hG 54 flX11_267 rfl rfl dX11_isPoint_6 ?_
    refine lv_icmp_ge (tgt := 16) hx hb dX11_isPoint_9 (by decide) (fun c2 => ?_) (fun c2 => ?_)
    · have h := g_pos c2 h
      refine lv_iconst (v := (0 : Int32)) hx hb dX11_isPoint_16 (by decide) ?_
      exact g_zretp hc hG (Or.inl rfl) dX11_isPoint_17 h
    · have h := g_neg c2 h
      refine lv_iconst (v := (1 : Int32)) hx hb dX11_isPoint_12 (by decide) ?_
      refine lv_goto (tgt := 17) hx hb dX11_isPoint_13 (by decide) ?_
      exact g_zretp hc hG (Or.inr rfl) dX11_isPoint_17 h
theorem mX11_isPoint (l : Launch) (E : GE) {S : GS} {a1 : Int32} {res : Int32} (h : fX11_isPoint S a1 = some res) : gMet l E yX11_isPoint cX11_isPoint 2 (some .boolean) rmX11_isPoint [gR E 54, .int a1] S (some (.int res)) S :=
  g_met (by decide) (Nat.le_of_ble_eq_true rfl) rfl fun p e s m below meth c H ls hc hG hl => wX11_isPoint_0 hc S a1 H [] ls hl hG h
abbrev rmX11_isCase : Room := { frames := 0, cells := 0, slots := 0, locals := 0 }
def fX11_isCase (S : GS) (a1 : Int32) : Option Int32 := (if a1 < 0 then (some (0 : Int32)) else (if (S.1 54 35) ≤ a1 then (some (0 : Int32)) else (some (1 : Int32))))
set_option maxRecDepth 100000 in
set_option maxHeartbeats 4000000 in
theorem wX11_isCase_0 {p : Program} {l : Launch} {e : Env} {s : State} {m : MethodId} {args : Array Value} {below : List Frame} {meth : Method} {c : Code} {E : GE} {res : Int32} (hc : GM E p s m args meth c RX11 cX11_isCase 2 (some .boolean)) : ∀ (S : GS) (a1 : Int32) (H : Heap) (locs : List Loc) (ls : Array Slot), lv_has ls 2 [(0, gR E 54), (1, .int a1)] → GX E S H locs → fX11_isCase S a1 = some res → W p l e rmX11_isCase s m args below meth c H locs 0 0 (gZ E below args s (some (.int res)) S) (F0 m 0 ls []) := by
  obtain ⟨hx, hb, -, -, -, hown, hts, -, -⟩ := id hc
  intro S a1 H locs ls hl hG h
  unfold fX11_isCase at h
  refine lv_iload_n hx hb dX11_isCase_0 rfl (lv_at hl 1 rfl) ?_
  refine lv_if_lt (tgt := 16) hx hb dX11_isCase_1 (by decide) (fun c1 => ?_) (fun c1 => ?_)
  · have h := g_pos c1 h
    refine lv_iconst (v := (0 : Int32)) hx hb dX11_isCase_16 (by decide) ?_
    exact g_zretp hc hG (Or.inl rfl) dX11_isCase_17 h
  · have h := g_neg c1 h
    refine lv_iload_n hx hb dX11_isCase_4 rfl (lv_at hl 1 rfl) ?_
    refine lv_aload_n hx hb dX11_isCase_5 rfl (lv_at hl 0 rfl) ?_
    refine g_getI hc hG 54 flX11_270 rfl rfl dX11_isCase_6 ?_
    refine lv_icmp_ge (tgt := 16) hx hb dX11_isCase_9 (by decide) (fun c2 => ?_) (fun c2 => ?_)
    · have h := g_pos c2 h
      refine lv_iconst (v := (0 : Int32)) hx hb dX11_isCase_16 (by decide) ?_
      exact g_zretp hc hG (Or.inl rfl) dX11_isCase_17 h
    · have h := g_neg c2 h
      refine lv_iconst (v := (1 : Int32)) hx hb dX11_isCase_12 (by decide) ?_
      refine lv_goto (tgt := 17) hx hb dX11_isCase_13 (by decide) ?_
      exact g_zretp hc hG (Or.inr rfl) dX11_isCase_17 h
theorem mX11_isCase (l : Launch) (E : GE) {S : GS} {a1 : Int32} {res : Int32} (h : fX11_isCase S a1 = some res) : gMet l E yX11_isCase cX11_isCase 2 (some .boolean) rmX11_isCase [gR E 54, .int a1] S (some (.int res)) S :=
  g_met (by decide) (Nat.le_of_ble_eq_true rfl) rfl fun p e s m below meth c H ls hc hG hl => wX11_isCase_0 hc S a1 H [] ls hl hG h
abbrev rmX11_isCourt : Room := { frames := 0, cells := 0, slots := 0, locals := 0 }
def fX11_isCourt (S : GS) (a1 : Int32) : Option Int32 := (if a1 < 0 then (some (0 : Int32)) else (if (S.1 54 30) ≤ a1 then (some (0 : Int32)) else (some (1 : Int32))))
set_option maxRecDepth 100000 in
set_option maxHeartbeats 4000000 in
theorem wX11_isCourt_0 {p : Program} {l : Launch} {e : Env} {s : State} {m : MethodId} {args : Array Value} {below : List Frame} {meth : Method} {c : Code} {E : GE} {res : Int32} (hc : GM E p s m args meth c RX11 cX11_isCourt 2 (some .boolean)) : ∀ (S : GS) (a1 : Int32) (H : Heap) (locs : List Loc) (ls : Array Slot), lv_has ls 2 [(0, gR E 54), (1, .int a1)] → GX E S H locs → fX11_isCourt S a1 = some res → W p l e rmX11_isCourt s m args below meth c H locs 0 0 (gZ E below args s (some (.int res)) S) (F0 m 0 ls []) := by
  obtain ⟨hx, hb, -, -, -, hown, hts, -, -⟩ := id hc
  intro S a1 H locs ls hl hG h
  unfold fX11_isCourt at h
  refine lv_iload_n hx hb dX11_isCourt_0 rfl (lv_at hl 1 rfl) ?_
  refine lv_if_lt (tgt := 16) hx hb dX11_isCourt_1 (by decide) (fun c1 => ?_) (fun c1 => ?_)
  · have h := g_pos c1 h
    refine lv_iconst (v := (0 : Int32)) hx hb dX11_isCourt_16 (by decide) ?_
    exact g_zretp hc hG (Or.inl rfl) dX11_isCourt_17 h
  · have h := g_neg c1 h
    refine lv_iload_n hx hb dX11_isCourt_4 rfl (lv_at hl 1 rfl) ?_
    refine lv_aload_n hx hb dX11_isCourt_5 rfl (lv_at hl 0 rfl) ?_
    refine g_getI hc hG 54 flX11_264 rfl rfl dX11_isCourt_6 ?_
    refine lv_icmp_ge (tgt := 16) hx hb dX11_isCourt_9 (by decide) (fun c2 => ?_) (fun c2 => ?_)
    · have h := g_pos c2 h
      refine lv_iconst (v := (0 : Int32)) hx hb dX11_isCourt_16 (by decide) ?_
      exact g_zretp hc hG (Or.inl rfl) dX11_isCourt_17 h
    · have h := g_neg c2 h
      refine lv_iconst (v := (1 : Int32)) hx hb dX11_isCourt_12 (by decide) ?_
      refine lv_goto (tgt := 17) hx hb dX11_isCourt_13 (by decide) ?_
      exact g_zretp hc hG (Or.inr rfl) dX11_isCourt_17 h
theorem mX11_isCourt (l : Launch) (E : GE) {S : GS} {a1 : Int32} {res : Int32} (h : fX11_isCourt S a1 = some res) : gMet l E yX11_isCourt cX11_isCourt 2 (some .boolean) rmX11_isCourt [gR E 54, .int a1] S (some (.int res)) S :=
  g_met (by decide) (Nat.le_of_ble_eq_true rfl) rfl fun p e s m below meth c H ls hc hG hl => wX11_isCourt_0 hc S a1 H [] ls hl hG h
abbrev rmX11_isFacts : Room := { frames := 0, cells := 0, slots := 0, locals := 0 }
def fX11_isFacts (S : GS) (a0 : Int32) : Option Int32 := (if a0 < 0 then (some (0 : Int32)) else (if (1024 : Int32) ≤ a0 then (some (0 : Int32)) else (some (1 : Int32))))
set_option maxRecDepth 100000 in
set_option maxHeartbeats 4000000 in
theorem wX11_isFacts_0 {p : Program} {l : Launch} {e : Env} {s : State} {m : MethodId} {args : Array Value} {below : List Frame} {meth : Method} {c : Code} {E : GE} {res : Int32} (hc : GM E p s m args meth c RX11 cX11_isFacts 1 (some .boolean)) : ∀ (S : GS) (a0 : Int32) (H : Heap) (locs : List Loc) (ls : Array Slot), lv_has ls 1 [(0, .int a0)] → GX E S H locs → fX11_isFacts S a0 = some res → W p l e rmX11_isFacts s m args below meth c H locs 0 0 (gZ E below args s (some (.int res)) S) (F0 m 0 ls []) := by
  obtain ⟨hx, hb, -, -, -, hown, hts, -, -⟩ := id hc
  intro S a0 H locs ls hl hG h
  unfold fX11_isFacts at h
  refine lv_iload_n hx hb dX11_isFacts_0 rfl (lv_at hl 0 rfl) ?_
  refine lv_if_lt (tgt := 15) hx hb dX11_isFacts_1 (by decide) (fun c1 => ?_) (fun c1 => ?_)
  · have h := g_pos c1 h
    refine lv_iconst (v := (0 : Int32)) hx hb dX11_isFacts_15 (by decide) ?_
    exact g_zretp hc hG (Or.inl rfl) dX11_isFacts_16 h
  · have h := g_neg c1 h
    refine lv_iload_n hx hb dX11_isFacts_4 rfl (lv_at hl 0 rfl) ?_
    refine lv_sipush (v := (1024 : Int32)) hx hb dX11_isFacts_5 (by decide) ?_
    refine lv_icmp_ge (tgt := 15) hx hb dX11_isFacts_8 (by decide) (fun c2 => ?_) (fun c2 => ?_)
    · have h := g_pos c2 h
      refine lv_iconst (v := (0 : Int32)) hx hb dX11_isFacts_15 (by decide) ?_
      exact g_zretp hc hG (Or.inl rfl) dX11_isFacts_16 h
    · have h := g_neg c2 h
      refine lv_iconst (v := (1 : Int32)) hx hb dX11_isFacts_11 (by decide) ?_
      refine lv_goto (tgt := 16) hx hb dX11_isFacts_12 (by decide) ?_
      exact g_zretp hc hG (Or.inr rfl) dX11_isFacts_16 h
theorem mX11_isFacts (l : Launch) (E : GE) {S : GS} {a0 : Int32} {res : Int32} (h : fX11_isFacts S a0 = some res) : gMet l E yX11_isFacts cX11_isFacts 1 (some .boolean) rmX11_isFacts [.int a0] S (some (.int res)) S :=
  g_met (by decide) (Nat.le_of_ble_eq_true rfl) rfl fun p e s m below meth c H ls hc hG hl => wX11_isFacts_0 hc S a0 H [] ls hl hG h
abbrev rmX11_isDay : Room := { frames := 0, cells := 0, slots := 0, locals := 0 }
def fX11_isDay (S : GS) (a0 : Int32) : Option Int32 := (if a0 < 0 then (some (0 : Int32)) else (if (9999 : Int32) < a0 then (some (0 : Int32)) else (some (1 : Int32))))
set_option maxRecDepth 100000 in
set_option maxHeartbeats 4000000 in
theorem wX11_isDay_0 {p : Program} {l : Launch} {e : Env} {s : State} {m : MethodId} {args : Array Value} {below : List Frame} {meth : Method} {c : Code} {E : GE} {res : Int32} (hc : GM E p s m args meth c RX11 cX11_isDay 1 (some .boolean)) : ∀ (S : GS) (a0 : Int32) (H : Heap) (locs : List Loc) (ls : Array Slot), lv_has ls 1 [(0, .int a0)] → GX E S H locs → fX11_isDay S a0 = some res → W p l e rmX11_isDay s m args below meth c H locs 0 0 (gZ E below args s (some (.int res)) S) (F0 m 0 ls []) := by
  obtain ⟨hx, hb, -, -, -, hown, hts, -, -⟩ := id hc
  intro S a0 H locs ls hl hG h
  unfold fX11_isDay at h
  refine lv_iload_n hx hb dX11_isDay_0 rfl (lv_at hl 0 rfl) ?_
  refine lv_if_lt (tgt := 15) hx hb dX11_isDay_1 (by decide) (fun c1 => ?_) (fun c1 => ?_)
  · have h := g_pos c1 h
    refine lv_iconst (v := (0 : Int32)) hx hb dX11_isDay_15 (by decide) ?_
    exact g_zretp hc hG (Or.inl rfl) dX11_isDay_16 h
  · have h := g_neg c1 h
    refine lv_iload_n hx hb dX11_isDay_4 rfl (lv_at hl 0 rfl) ?_
    refine lv_sipush (v := (9999 : Int32)) hx hb dX11_isDay_5 (by decide) ?_
    refine lv_icmp_gt (tgt := 15) hx hb dX11_isDay_8 (by decide) (fun c2 => ?_) (fun c2 => ?_)
    · have h := g_pos c2 h
      refine lv_iconst (v := (0 : Int32)) hx hb dX11_isDay_15 (by decide) ?_
      exact g_zretp hc hG (Or.inl rfl) dX11_isDay_16 h
    · have h := g_neg c2 h
      refine lv_iconst (v := (1 : Int32)) hx hb dX11_isDay_11 (by decide) ?_
      refine lv_goto (tgt := 16) hx hb dX11_isDay_12 (by decide) ?_
      exact g_zretp hc hG (Or.inr rfl) dX11_isDay_16 h
theorem mX11_isDay (l : Launch) (E : GE) {S : GS} {a0 : Int32} {res : Int32} (h : fX11_isDay S a0 = some res) : gMet l E yX11_isDay cX11_isDay 1 (some .boolean) rmX11_isDay [.int a0] S (some (.int res)) S :=
  g_met (by decide) (Nat.le_of_ble_eq_true rfl) rfl fun p e s m below meth c H ls hc hG hl => wX11_isDay_0 hc S a0 H [] ls hl hG h
abbrev rmX11_oppose : Room := { frames := 1, cells := 0, slots := 0, locals := 21 }
def fX11_oppose_45 (S : GS) (t0 : Int32) (a1 : Int32) (a2 : Int32) (a3 : Int32) : Option (Int32 × GS) := (if t0 = a3 then (some ((0 : Int32), S)) else (if gib a1 12 = true then glet (gsi S 65 (a1.toNatClampNeg) ((S.1 65 a1.toNatClampNeg) ^^^ ((1 : Int32) <<< (a2 &&& 31)))) fun S3 => (if gib a2 12 = true then glet (gsi S3 65 (a2.toNatClampNeg) ((S3.1 65 a2.toNatClampNeg) ^^^ ((1 : Int32) <<< (a1 &&& 31)))) fun S5 => (some ((1 : Int32), S5)) else none) else none))
set_option maxRecDepth 100000 in
set_option maxHeartbeats 4000000 in
theorem wX11_oppose_45 {p : Program} {l : Launch} {e : Env} {s : State} {m : MethodId} {args : Array Value} {below : List Frame} {meth : Method} {c : Code} {E : GE} {res : (Int32 × GS)} (hc : GM E p s m args meth c RX11 cX11_oppose 4 (some .boolean)) : ∀ (S : GS) (t0 : Int32) (a1 : Int32) (a2 : Int32) (a3 : Int32) (H : Heap) (locs : List Loc) (ls : Array Slot), lv_has ls 4 [(0, gR E 54), (1, .int a1), (2, .int a2), (3, .int a3)] → GX E S H locs → fX11_oppose_45 S t0 a1 a2 a3 = some res → W p l e rmX11_oppose s m args below meth c H locs 0 0 (gZ E below args s (some (.int res.1)) res.2) (F0 m 45 ls [.int t0]) := by
  obtain ⟨hx, hb, -, -, -, hown, hts, -, -⟩ := id hc
  intro S t0 a1 a2 a3 H locs ls hl hG h
  unfold fX11_oppose_45 at h
  refine lv_iload_n hx hb dX11_oppose_45 rfl (lv_at hl 3 rfl) ?_
  refine lv_icmp_ne (tgt := 51) hx hb dX11_oppose_46 (by decide) (fun c1 => ?_) (fun c1 => ?_)
  · have h := g_neg c1 h
    refine lv_aload_n hx hb dX11_oppose_51 rfl (lv_at hl 0 rfl) ?_
    refine g_getR hc hG 54 65 flX11_49 rfl rfl rfl dX11_oppose_52 ?_
    refine lv_iload_n hx hb dX11_oppose_55 rfl (lv_at hl 1 rfl) ?_
    refine lv_dup2_11 hx hb dX11_oppose_56 rfl rfl ?_
    obtain ⟨hi2, h⟩ := g_if h
    refine g_iald hc hG 65 12 (a1.toNatClampNeg) rfl rfl hi2 rfl dX11_oppose_57 ?_
    refine lv_iconst (v := (1 : Int32)) hx hb dX11_oppose_58 (by decide) ?_
    refine lv_iload_n hx hb dX11_oppose_59 rfl (lv_at hl 2 rfl) ?_
    refine lv_ishl hx hb dX11_oppose_60 ?_
    refine lv_ixor hx hb dX11_oppose_61 ?_
    refine g_iast hc hG 65 12 (a1.toNatClampNeg) rfl rfl hi2 rfl dX11_oppose_62 (fun S3 H locs eS3 hG => ?_)
    have h := g_let eS3 h
    refine lv_aload_n hx hb dX11_oppose_63 rfl (lv_at hl 0 rfl) ?_
    refine g_getR hc hG 54 65 flX11_49 rfl rfl rfl dX11_oppose_64 ?_
    refine lv_iload_n hx hb dX11_oppose_67 rfl (lv_at hl 2 rfl) ?_
    refine lv_dup2_11 hx hb dX11_oppose_68 rfl rfl ?_
    obtain ⟨hi4, h⟩ := g_if h
    refine g_iald hc hG 65 12 (a2.toNatClampNeg) rfl rfl hi4 rfl dX11_oppose_69 ?_
    refine lv_iconst (v := (1 : Int32)) hx hb dX11_oppose_70 (by decide) ?_
    refine lv_iload_n hx hb dX11_oppose_71 rfl (lv_at hl 1 rfl) ?_
    refine lv_ishl hx hb dX11_oppose_72 ?_
    refine lv_ixor hx hb dX11_oppose_73 ?_
    refine g_iast hc hG 65 12 (a2.toNatClampNeg) rfl rfl hi4 rfl dX11_oppose_74 (fun S5 H locs eS5 hG => ?_)
    have h := g_let eS5 h
    refine lv_iconst (v := (1 : Int32)) hx hb dX11_oppose_75 (by decide) ?_
    exact g_zret hc hG (Or.inr rfl) dX11_oppose_76 h
  · have h := g_pos c1 h
    refine lv_iconst (v := (0 : Int32)) hx hb dX11_oppose_49 (by decide) ?_
    exact g_zret hc hG (Or.inl rfl) dX11_oppose_50 h
def fX11_oppose (S : GS) (a1 : Int32) (a2 : Int32) (a3 : Int32) : Option (Int32 × GS) := glet (gsi S 54 0 (0 : Int32)) fun S1 => gbv (fX11_isPoint S1 a1) fun r3 => (if r3 = 0 then (some ((0 : Int32), S1)) else gbv (fX11_isPoint S1 a2) fun r6 => (if r6 = 0 then (some ((0 : Int32), S1)) else (if a1 = a2 then (some ((0 : Int32), S1)) else (if gib a1 12 = true then (if (((S1.1 65 a1.toNatClampNeg) >>> (a2 &&& 31)) &&& (1 : Int32)) = (1 : Int32) then (fX11_oppose_45 S1 (1 : Int32) a1 a2 a3) else (fX11_oppose_45 S1 (0 : Int32) a1 a2 a3)) else none))))
set_option maxRecDepth 100000 in
set_option maxHeartbeats 4000000 in
theorem wX11_oppose_0 {p : Program} {l : Launch} {e : Env} {s : State} {m : MethodId} {args : Array Value} {below : List Frame} {meth : Method} {c : Code} {E : GE} {res : (Int32 × GS)} (hc : GM E p s m args meth c RX11 cX11_oppose 4 (some .boolean)) : ∀ (S : GS) (a1 : Int32) (a2 : Int32) (a3 : Int32) (H : Heap) (locs : List Loc) (ls : Array Slot), lv_has ls 4 [(0, gR E 54), (1, .int a1), (2, .int a2), (3, .int a3)] → GX E S H locs → fX11_oppose S a1 a2 a3 = some res → W p l e rmX11_oppose s m args below meth c H locs 0 0 (gZ E below args s (some (.int res.1)) res.2) (F0 m 0 ls []) := by
  obtain ⟨hx, hb, -, -, -, hown, hts, -, -⟩ := id hc
  intro S a1 a2 a3 H locs ls hl hG h
  unfold fX11_oppose at h
  refine lv_aload_n hx hb dX11_oppose_0 rfl (lv_at hl 0 rfl) ?_
  refine lv_iconst (v := (0 : Int32)) hx hb dX11_oppose_1 (by decide) ?_
  refine g_putI hc hG 54 fpX11_115 rfl rfl rfl rfl dX11_oppose_2 (fun S1 H locs eS1 hG => ?_)
  have h := g_let eS1 h
  refine lv_aload_n hx hb dX11_oppose_5 rfl (lv_at hl 0 rfl) ?_
  refine lv_iload_n hx hb dX11_oppose_6 rfl (lv_at hl 1 rfl) ?_
  obtain ⟨r3, hm2, h⟩ := g_bv h
  refine g_callVi (As := [.int a1]) hc hG (mX11_isPoint l E hm2) mlX11_273 mcX11_isPoint miX11_isPoint rfl rfl rfl rfl hl.1 rfl rfl ⟨by decide, by decide⟩ (Nat.le_of_ble_eq_true rfl) ⟨by decide, by decide⟩ dX11_oppose_7 rfl (fun H locs hG => ?_)
  refine lv_if_eq (tgt := 49) hx hb dX11_oppose_10 (by decide) (fun c4 => ?_) (fun c4 => ?_)
  · have h := g_pos c4 h
    refine lv_iconst (v := (0 : Int32)) hx hb dX11_oppose_49 (by decide) ?_
    exact g_zret hc hG (Or.inl rfl) dX11_oppose_50 h
  · have h := g_neg c4 h
    refine lv_aload_n hx hb dX11_oppose_13 rfl (lv_at hl 0 rfl) ?_
    refine lv_iload_n hx hb dX11_oppose_14 rfl (lv_at hl 2 rfl) ?_
    obtain ⟨r6, hm5, h⟩ := g_bv h
    refine g_callVi (As := [.int a2]) hc hG (mX11_isPoint l E hm5) mlX11_273 mcX11_isPoint miX11_isPoint rfl rfl rfl rfl hl.1 rfl rfl ⟨by decide, by decide⟩ (Nat.le_of_ble_eq_true rfl) ⟨by decide, by decide⟩ dX11_oppose_15 rfl (fun H locs hG => ?_)
    refine lv_if_eq (tgt := 49) hx hb dX11_oppose_18 (by decide) (fun c7 => ?_) (fun c7 => ?_)
    · have h := g_pos c7 h
      refine lv_iconst (v := (0 : Int32)) hx hb dX11_oppose_49 (by decide) ?_
      exact g_zret hc hG (Or.inl rfl) dX11_oppose_50 h
    · have h := g_neg c7 h
      refine lv_iload_n hx hb dX11_oppose_21 rfl (lv_at hl 1 rfl) ?_
      refine lv_iload_n hx hb dX11_oppose_22 rfl (lv_at hl 2 rfl) ?_
      refine lv_icmp_eq (tgt := 49) hx hb dX11_oppose_23 (by decide) (fun c8 => ?_) (fun c8 => ?_)
      · have h := g_pos c8 h
        refine lv_iconst (v := (0 : Int32)) hx hb dX11_oppose_49 (by decide) ?_
        exact g_zret hc hG (Or.inl rfl) dX11_oppose_50 h
      · have h := g_neg c8 h
        refine lv_aload_n hx hb dX11_oppose_26 rfl (lv_at hl 0 rfl) ?_
        refine g_getR hc hG 54 65 flX11_49 rfl rfl rfl dX11_oppose_27 ?_
        refine lv_iload_n hx hb dX11_oppose_30 rfl (lv_at hl 1 rfl) ?_
        obtain ⟨hi9, h⟩ := g_if h
        refine g_iald hc hG 65 12 (a1.toNatClampNeg) rfl rfl hi9 rfl dX11_oppose_31 ?_
        refine lv_iload_n hx hb dX11_oppose_32 rfl (lv_at hl 2 rfl) ?_
        refine lv_ishr hx hb dX11_oppose_33 ?_
        refine lv_iconst (v := (1 : Int32)) hx hb dX11_oppose_34 (by decide) ?_
        refine lv_iand hx hb dX11_oppose_35 ?_
        refine lv_iconst (v := (1 : Int32)) hx hb dX11_oppose_36 (by decide) ?_
        refine lv_icmp_ne (tgt := 44) hx hb dX11_oppose_37 (by decide) (fun c10 => ?_) (fun c10 => ?_)
        · have h := g_neg c10 h
          refine lv_iconst (v := (0 : Int32)) hx hb dX11_oppose_44 (by decide) ?_
          exact wX11_oppose_45 hc S1 (0 : Int32) a1 a2 a3 _ _ _ (lv_sub hl [0, 1, 2, 3] rfl) hG h
        · have h := g_pos c10 h
          refine lv_iconst (v := (1 : Int32)) hx hb dX11_oppose_40 (by decide) ?_
          refine lv_goto (tgt := 45) hx hb dX11_oppose_41 (by decide) ?_
          exact wX11_oppose_45 hc S1 (1 : Int32) a1 a2 a3 _ _ _ (lv_sub hl [0, 1, 2, 3] rfl) hG h
theorem mX11_oppose (l : Launch) (E : GE) {S : GS} {a1 : Int32} {a2 : Int32} {a3 : Int32} {res : (Int32 × GS)} (h : fX11_oppose S a1 a2 a3 = some res) : gMet l E yX11_oppose cX11_oppose 4 (some .boolean) rmX11_oppose [gR E 54, .int a1, .int a2, .int a3] S (some (.int res.1)) res.2 :=
  g_met (by decide) (Nat.le_of_ble_eq_true rfl) rfl fun p e s m below meth c H ls hc hG hl => wX11_oppose_0 hc S a1 a2 a3 H [] ls hl hG h
abbrev rmX11_kase : Room := { frames := 1, cells := 0, slots := 0, locals := 21 }
def fX11_kase (S : GS) (a1 : Int32) (a2 : Int32) (a3 : Int32) (a4 : Int32) : Option (Int32 × GS) := glet (gsi S 54 0 (0 : Int32)) fun S1 => gbv (fX11_isCourt S1 a1) fun r3 => (if r3 = 0 then (some ((-1 : Int32), S1)) else (if a2 < 0 then (some ((-1 : Int32), S1)) else (if (S1.1 54 29) < a2 then (some ((-1 : Int32), S1)) else (if a3 < (1 : Int32) then (some ((-1 : Int32), S1)) else (if (3 : Int32) < a3 then (some ((-1 : Int32), S1)) else gbv (fX11_isFacts S1 a4) fun r10 => (if r10 = 0 then (some ((-1 : Int32), S1)) else (if (S1.1 54 35) = (32 : Int32) then (some ((-1 : Int32), S1)) else (if gib (S1.1 54 35) 32 = true then glet (gsi S1 66 (((S1.1 54 35)).toNatClampNeg) a1) fun S14 => (if gib (S14.1 54 35) 32 = true then glet (gsi S14 67 (((S14.1 54 35)).toNatClampNeg) a2) fun S16 => (if gib (S16.1 54 35) 32 = true then glet (gsi S16 68 (((S16.1 54 35)).toNatClampNeg) a3) fun S18 => (if gib (S18.1 54 35) 32 = true then glet (gsi S18 69 (((S18.1 54 35)).toNatClampNeg) a4) fun S20 => (if gib (S20.1 54 35) 32 = true then glet (gsi S20 70 (((S20.1 54 35)).toNatClampNeg) (S20.1 54 29)) fun S22 => glet (gsi S22 54 35 ((S22.1 54 35) + (1 : Int32))) fun S23 => (some (((S23.1 54 35) - (1 : Int32)), S23)) else none) else none) else none) else none) else none))))))))
set_option maxRecDepth 100000 in
set_option maxHeartbeats 4000000 in
theorem wX11_kase_0 {p : Program} {l : Launch} {e : Env} {s : State} {m : MethodId} {args : Array Value} {below : List Frame} {meth : Method} {c : Code} {E : GE} {res : (Int32 × GS)} (hc : GM E p s m args meth c RX11 cX11_kase 5 (some .int)) : ∀ (S : GS) (a1 : Int32) (a2 : Int32) (a3 : Int32) (a4 : Int32) (H : Heap) (locs : List Loc) (ls : Array Slot), lv_has ls 5 [(0, gR E 54), (1, .int a1), (2, .int a2), (3, .int a3), (4, .int a4)] → GX E S H locs → fX11_kase S a1 a2 a3 a4 = some res → W p l e rmX11_kase s m args below meth c H locs 0 0 (gZ E below args s (some (.int res.1)) res.2) (F0 m 0 ls []) := by
  obtain ⟨hx, hb, -, -, -, hown, hts, -, -⟩ := id hc
  intro S a1 a2 a3 a4 H locs ls hl hG h
  unfold fX11_kase at h
  refine lv_aload_n hx hb dX11_kase_0 rfl (lv_at hl 0 rfl) ?_
  refine lv_iconst (v := (0 : Int32)) hx hb dX11_kase_1 (by decide) ?_
  refine g_putI hc hG 54 fpX11_115 rfl rfl rfl rfl dX11_kase_2 (fun S1 H locs eS1 hG => ?_)
  have h := g_let eS1 h
  refine lv_aload_n hx hb dX11_kase_5 rfl (lv_at hl 0 rfl) ?_
  refine lv_iload_n hx hb dX11_kase_6 rfl (lv_at hl 1 rfl) ?_
  obtain ⟨r3, hm2, h⟩ := g_bv h
  refine g_callVi (As := [.int a1]) hc hG (mX11_isCourt l E hm2) mlX11_276 mcX11_isCourt miX11_isCourt rfl rfl rfl rfl hl.1 rfl rfl ⟨by decide, by decide⟩ (Nat.le_of_ble_eq_true rfl) ⟨by decide, by decide⟩ dX11_kase_7 rfl (fun H locs hG => ?_)
  refine lv_if_eq (tgt := 52) hx hb dX11_kase_10 (by decide) (fun c4 => ?_) (fun c4 => ?_)
  · have h := g_pos c4 h
    refine lv_iconst (v := (-1 : Int32)) hx hb dX11_kase_52 (by decide) ?_
    exact g_iret hc hG dX11_kase_53 h
  · have h := g_neg c4 h
    refine lv_iload_n hx hb dX11_kase_13 rfl (lv_at hl 2 rfl) ?_
    refine lv_if_lt (tgt := 52) hx hb dX11_kase_14 (by decide) (fun c5 => ?_) (fun c5 => ?_)
    · have h := g_pos c5 h
      refine lv_iconst (v := (-1 : Int32)) hx hb dX11_kase_52 (by decide) ?_
      exact g_iret hc hG dX11_kase_53 h
    · have h := g_neg c5 h
      refine lv_iload_n hx hb dX11_kase_17 rfl (lv_at hl 2 rfl) ?_
      refine lv_aload_n hx hb dX11_kase_18 rfl (lv_at hl 0 rfl) ?_
      refine g_getI hc hG 54 flX11_261 rfl rfl dX11_kase_19 ?_
      refine lv_icmp_gt (tgt := 52) hx hb dX11_kase_22 (by decide) (fun c6 => ?_) (fun c6 => ?_)
      · have h := g_pos c6 h
        refine lv_iconst (v := (-1 : Int32)) hx hb dX11_kase_52 (by decide) ?_
        exact g_iret hc hG dX11_kase_53 h
      · have h := g_neg c6 h
        refine lv_iload_n hx hb dX11_kase_25 rfl (lv_at hl 3 rfl) ?_
        refine lv_iconst (v := (1 : Int32)) hx hb dX11_kase_26 (by decide) ?_
        refine lv_icmp_lt (tgt := 52) hx hb dX11_kase_27 (by decide) (fun c7 => ?_) (fun c7 => ?_)
        · have h := g_pos c7 h
          refine lv_iconst (v := (-1 : Int32)) hx hb dX11_kase_52 (by decide) ?_
          exact g_iret hc hG dX11_kase_53 h
        · have h := g_neg c7 h
          refine lv_iload_n hx hb dX11_kase_30 rfl (lv_at hl 3 rfl) ?_
          refine lv_iconst (v := (3 : Int32)) hx hb dX11_kase_31 (by decide) ?_
          refine lv_icmp_gt (tgt := 52) hx hb dX11_kase_32 (by decide) (fun c8 => ?_) (fun c8 => ?_)
          · have h := g_pos c8 h
            refine lv_iconst (v := (-1 : Int32)) hx hb dX11_kase_52 (by decide) ?_
            exact g_iret hc hG dX11_kase_53 h
          · have h := g_neg c8 h
            refine lv_iload hx hb dX11_kase_35 (lv_at hl 4 rfl) ?_
            obtain ⟨r10, hm9, h⟩ := g_bv h
            refine g_callSi (As := [.int a4]) hc hG (mX11_isFacts l E hm9) mlX11_279 mcX11_isFacts msX11_isFacts rfl hl.1 rfl rfl ⟨by decide, by decide⟩ (Nat.le_of_ble_eq_true rfl) ⟨by decide, by decide⟩ dX11_kase_37 rfl (fun H locs hG => ?_)
            refine lv_if_eq (tgt := 52) hx hb dX11_kase_40 (by decide) (fun c11 => ?_) (fun c11 => ?_)
            · have h := g_pos c11 h
              refine lv_iconst (v := (-1 : Int32)) hx hb dX11_kase_52 (by decide) ?_
              exact g_iret hc hG dX11_kase_53 h
            · have h := g_neg c11 h
              refine lv_aload_n hx hb dX11_kase_43 rfl (lv_at hl 0 rfl) ?_
              refine g_getI hc hG 54 flX11_270 rfl rfl dX11_kase_44 ?_
              refine lv_bipush (v := (32 : Int32)) hx hb dX11_kase_47 (by decide) ?_
              refine lv_icmp_ne (tgt := 54) hx hb dX11_kase_49 (by decide) (fun c12 => ?_) (fun c12 => ?_)
              · have h := g_neg c12 h
                refine lv_aload_n hx hb dX11_kase_54 rfl (lv_at hl 0 rfl) ?_
                refine g_getR hc hG 54 66 flX11_52 rfl rfl rfl dX11_kase_55 ?_
                refine lv_aload_n hx hb dX11_kase_58 rfl (lv_at hl 0 rfl) ?_
                refine g_getI hc hG 54 flX11_270 rfl rfl dX11_kase_59 ?_
                refine lv_iload_n hx hb dX11_kase_62 rfl (lv_at hl 1 rfl) ?_
                obtain ⟨hi13, h⟩ := g_if h
                refine g_iast hc hG 66 32 (((S1.1 54 35)).toNatClampNeg) rfl rfl hi13 rfl dX11_kase_63 (fun S14 H locs eS14 hG => ?_)
                have h := g_let eS14 h
                refine lv_aload_n hx hb dX11_kase_64 rfl (lv_at hl 0 rfl) ?_
                refine g_getR hc hG 54 67 flX11_55 rfl rfl rfl dX11_kase_65 ?_
                refine lv_aload_n hx hb dX11_kase_68 rfl (lv_at hl 0 rfl) ?_
                refine g_getI hc hG 54 flX11_270 rfl rfl dX11_kase_69 ?_
                refine lv_iload_n hx hb dX11_kase_72 rfl (lv_at hl 2 rfl) ?_
                obtain ⟨hi15, h⟩ := g_if h
                refine g_iast hc hG 67 32 (((S14.1 54 35)).toNatClampNeg) rfl rfl hi15 rfl dX11_kase_73 (fun S16 H locs eS16 hG => ?_)
                have h := g_let eS16 h
                refine lv_aload_n hx hb dX11_kase_74 rfl (lv_at hl 0 rfl) ?_
                refine g_getR hc hG 54 68 flX11_58 rfl rfl rfl dX11_kase_75 ?_
                refine lv_aload_n hx hb dX11_kase_78 rfl (lv_at hl 0 rfl) ?_
                refine g_getI hc hG 54 flX11_270 rfl rfl dX11_kase_79 ?_
                refine lv_iload_n hx hb dX11_kase_82 rfl (lv_at hl 3 rfl) ?_
                obtain ⟨hi17, h⟩ := g_if h
                refine g_iast hc hG 68 32 (((S16.1 54 35)).toNatClampNeg) rfl rfl hi17 rfl dX11_kase_83 (fun S18 H locs eS18 hG => ?_)
                have h := g_let eS18 h
                refine lv_aload_n hx hb dX11_kase_84 rfl (lv_at hl 0 rfl) ?_
                refine g_getR hc hG 54 69 flX11_61 rfl rfl rfl dX11_kase_85 ?_
                refine lv_aload_n hx hb dX11_kase_88 rfl (lv_at hl 0 rfl) ?_
                refine g_getI hc hG 54 flX11_270 rfl rfl dX11_kase_89 ?_
                refine lv_iload hx hb dX11_kase_92 (lv_at hl 4 rfl) ?_
                obtain ⟨hi19, h⟩ := g_if h
                refine g_iast hc hG 69 32 (((S18.1 54 35)).toNatClampNeg) rfl rfl hi19 rfl dX11_kase_94 (fun S20 H locs eS20 hG => ?_)
                have h := g_let eS20 h
                refine lv_aload_n hx hb dX11_kase_95 rfl (lv_at hl 0 rfl) ?_
                refine g_getR hc hG 54 70 flX11_64 rfl rfl rfl dX11_kase_96 ?_
                refine lv_aload_n hx hb dX11_kase_99 rfl (lv_at hl 0 rfl) ?_
                refine g_getI hc hG 54 flX11_270 rfl rfl dX11_kase_100 ?_
                refine lv_aload_n hx hb dX11_kase_103 rfl (lv_at hl 0 rfl) ?_
                refine g_getI hc hG 54 flX11_261 rfl rfl dX11_kase_104 ?_
                obtain ⟨hi21, h⟩ := g_if h
                refine g_iast hc hG 70 32 (((S20.1 54 35)).toNatClampNeg) rfl rfl hi21 rfl dX11_kase_107 (fun S22 H locs eS22 hG => ?_)
                have h := g_let eS22 h
                refine lv_aload_n hx hb dX11_kase_108 rfl (lv_at hl 0 rfl) ?_
                refine lv_dup hx hb dX11_kase_109 rfl ?_
                refine g_getI hc hG 54 flX11_270 rfl rfl dX11_kase_110 ?_
                refine lv_iconst (v := (1 : Int32)) hx hb dX11_kase_113 (by decide) ?_
                refine lv_iadd hx hb dX11_kase_114 ?_
                refine g_putI hc hG 54 fpX11_270 rfl rfl rfl rfl dX11_kase_115 (fun S23 H locs eS23 hG => ?_)
                have h := g_let eS23 h
                refine lv_aload_n hx hb dX11_kase_118 rfl (lv_at hl 0 rfl) ?_
                refine g_getI hc hG 54 flX11_270 rfl rfl dX11_kase_119 ?_
                refine lv_iconst (v := (1 : Int32)) hx hb dX11_kase_122 (by decide) ?_
                refine lv_isub hx hb dX11_kase_123 ?_
                exact g_iret hc hG dX11_kase_124 h
              · have h := g_pos c12 h
                refine lv_iconst (v := (-1 : Int32)) hx hb dX11_kase_52 (by decide) ?_
                exact g_iret hc hG dX11_kase_53 h
theorem mX11_kase (l : Launch) (E : GE) {S : GS} {a1 : Int32} {a2 : Int32} {a3 : Int32} {a4 : Int32} {res : (Int32 × GS)} (h : fX11_kase S a1 a2 a3 a4 = some res) : gMet l E yX11_kase cX11_kase 5 (some .int) rmX11_kase [gR E 54, .int a1, .int a2, .int a3, .int a4] S (some (.int res.1)) res.2 :=
  g_met (by decide) (Nat.le_of_ble_eq_true rfl) rfl fun p e s m below meth c H ls hc hG hl => wX11_kase_0 hc S a1 a2 a3 a4 H [] ls hl hG h
abbrev rmX11_note : Room := { frames := 0, cells := 0, slots := 0, locals := 0 }
def fX11_note (S : GS) (a1 : Int32) (a2 : Int32) (a3 : Int32) (a4 : Int32) (a5 : Int32) : Option (Int32 × GS) := (if gib (S.1 54 41) 120 = true then glet (gsi S 71 (((S.1 54 41)).toNatClampNeg) a1) fun S2 => (if gib (S2.1 54 41) 120 = true then glet (gsi S2 72 (((S2.1 54 41)).toNatClampNeg) (S2.1 54 29)) fun S4 => (if gib (S4.1 54 41) 120 = true then glet (gsi S4 73 (((S4.1 54 41)).toNatClampNeg) a2) fun S6 => (if gib (S6.1 54 41) 120 = true then glet (gsi S6 74 (((S6.1 54 41)).toNatClampNeg) a3) fun S8 => (if gib (S8.1 54 41) 120 = true then glet (gsi S8 75 (((S8.1 54 41)).toNatClampNeg) a4) fun S10 => (if gib (S10.1 54 41) 120 = true then glet (gsi S10 76 (((S10.1 54 41)).toNatClampNeg) a5) fun S12 => glet (gsi S12 54 41 ((S12.1 54 41) + (1 : Int32))) fun S13 => (some (((S13.1 54 41) - (1 : Int32)), S13)) else none) else none) else none) else none) else none) else none)
set_option maxRecDepth 100000 in
set_option maxHeartbeats 4000000 in
theorem wX11_note_0 {p : Program} {l : Launch} {e : Env} {s : State} {m : MethodId} {args : Array Value} {below : List Frame} {meth : Method} {c : Code} {E : GE} {res : (Int32 × GS)} (hc : GM E p s m args meth c RX11 cX11_note 6 (some .int)) : ∀ (S : GS) (a1 : Int32) (a2 : Int32) (a3 : Int32) (a4 : Int32) (a5 : Int32) (H : Heap) (locs : List Loc) (ls : Array Slot), lv_has ls 6 [(0, gR E 54), (1, .int a1), (2, .int a2), (3, .int a3), (4, .int a4), (5, .int a5)] → GX E S H locs → fX11_note S a1 a2 a3 a4 a5 = some res → W p l e rmX11_note s m args below meth c H locs 0 0 (gZ E below args s (some (.int res.1)) res.2) (F0 m 0 ls []) := by
  obtain ⟨hx, hb, -, -, -, hown, hts, -, -⟩ := id hc
  intro S a1 a2 a3 a4 a5 H locs ls hl hG h
  unfold fX11_note at h
  refine lv_aload_n hx hb dX11_note_0 rfl (lv_at hl 0 rfl) ?_
  refine g_getR hc hG 54 71 flX11_67 rfl rfl rfl dX11_note_1 ?_
  refine lv_aload_n hx hb dX11_note_4 rfl (lv_at hl 0 rfl) ?_
  refine g_getI hc hG 54 flX11_282 rfl rfl dX11_note_5 ?_
  refine lv_iload_n hx hb dX11_note_8 rfl (lv_at hl 1 rfl) ?_
  obtain ⟨hi1, h⟩ := g_if h
  refine g_iast hc hG 71 120 (((S.1 54 41)).toNatClampNeg) rfl rfl hi1 rfl dX11_note_9 (fun S2 H locs eS2 hG => ?_)
  have h := g_let eS2 h
  refine lv_aload_n hx hb dX11_note_10 rfl (lv_at hl 0 rfl) ?_
  refine g_getR hc hG 54 72 flX11_70 rfl rfl rfl dX11_note_11 ?_
  refine lv_aload_n hx hb dX11_note_14 rfl (lv_at hl 0 rfl) ?_
  refine g_getI hc hG 54 flX11_282 rfl rfl dX11_note_15 ?_
  refine lv_aload_n hx hb dX11_note_18 rfl (lv_at hl 0 rfl) ?_
  refine g_getI hc hG 54 flX11_261 rfl rfl dX11_note_19 ?_
  obtain ⟨hi3, h⟩ := g_if h
  refine g_iast hc hG 72 120 (((S2.1 54 41)).toNatClampNeg) rfl rfl hi3 rfl dX11_note_22 (fun S4 H locs eS4 hG => ?_)
  have h := g_let eS4 h
  refine lv_aload_n hx hb dX11_note_23 rfl (lv_at hl 0 rfl) ?_
  refine g_getR hc hG 54 73 flX11_73 rfl rfl rfl dX11_note_24 ?_
  refine lv_aload_n hx hb dX11_note_27 rfl (lv_at hl 0 rfl) ?_
  refine g_getI hc hG 54 flX11_282 rfl rfl dX11_note_28 ?_
  refine lv_iload_n hx hb dX11_note_31 rfl (lv_at hl 2 rfl) ?_
  obtain ⟨hi5, h⟩ := g_if h
  refine g_iast hc hG 73 120 (((S4.1 54 41)).toNatClampNeg) rfl rfl hi5 rfl dX11_note_32 (fun S6 H locs eS6 hG => ?_)
  have h := g_let eS6 h
  refine lv_aload_n hx hb dX11_note_33 rfl (lv_at hl 0 rfl) ?_
  refine g_getR hc hG 54 74 flX11_76 rfl rfl rfl dX11_note_34 ?_
  refine lv_aload_n hx hb dX11_note_37 rfl (lv_at hl 0 rfl) ?_
  refine g_getI hc hG 54 flX11_282 rfl rfl dX11_note_38 ?_
  refine lv_iload_n hx hb dX11_note_41 rfl (lv_at hl 3 rfl) ?_
  obtain ⟨hi7, h⟩ := g_if h
  refine g_iast hc hG 74 120 (((S6.1 54 41)).toNatClampNeg) rfl rfl hi7 rfl dX11_note_42 (fun S8 H locs eS8 hG => ?_)
  have h := g_let eS8 h
  refine lv_aload_n hx hb dX11_note_43 rfl (lv_at hl 0 rfl) ?_
  refine g_getR hc hG 54 75 flX11_79 rfl rfl rfl dX11_note_44 ?_
  refine lv_aload_n hx hb dX11_note_47 rfl (lv_at hl 0 rfl) ?_
  refine g_getI hc hG 54 flX11_282 rfl rfl dX11_note_48 ?_
  refine lv_iload hx hb dX11_note_51 (lv_at hl 4 rfl) ?_
  obtain ⟨hi9, h⟩ := g_if h
  refine g_iast hc hG 75 120 (((S8.1 54 41)).toNatClampNeg) rfl rfl hi9 rfl dX11_note_53 (fun S10 H locs eS10 hG => ?_)
  have h := g_let eS10 h
  refine lv_aload_n hx hb dX11_note_54 rfl (lv_at hl 0 rfl) ?_
  refine g_getR hc hG 54 76 flX11_82 rfl rfl rfl dX11_note_55 ?_
  refine lv_aload_n hx hb dX11_note_58 rfl (lv_at hl 0 rfl) ?_
  refine g_getI hc hG 54 flX11_282 rfl rfl dX11_note_59 ?_
  refine lv_iload hx hb dX11_note_62 (lv_at hl 5 rfl) ?_
  obtain ⟨hi11, h⟩ := g_if h
  refine g_iast hc hG 76 120 (((S10.1 54 41)).toNatClampNeg) rfl rfl hi11 rfl dX11_note_64 (fun S12 H locs eS12 hG => ?_)
  have h := g_let eS12 h
  refine lv_aload_n hx hb dX11_note_65 rfl (lv_at hl 0 rfl) ?_
  refine lv_dup hx hb dX11_note_66 rfl ?_
  refine g_getI hc hG 54 flX11_282 rfl rfl dX11_note_67 ?_
  refine lv_iconst (v := (1 : Int32)) hx hb dX11_note_70 (by decide) ?_
  refine lv_iadd hx hb dX11_note_71 ?_
  refine g_putI hc hG 54 fpX11_282 rfl rfl rfl rfl dX11_note_72 (fun S13 H locs eS13 hG => ?_)
  have h := g_let eS13 h
  refine lv_aload_n hx hb dX11_note_75 rfl (lv_at hl 0 rfl) ?_
  refine g_getI hc hG 54 flX11_282 rfl rfl dX11_note_76 ?_
  refine lv_iconst (v := (1 : Int32)) hx hb dX11_note_79 (by decide) ?_
  refine lv_isub hx hb dX11_note_80 ?_
  exact g_iret hc hG dX11_note_81 h
theorem mX11_note (l : Launch) (E : GE) {S : GS} {a1 : Int32} {a2 : Int32} {a3 : Int32} {a4 : Int32} {a5 : Int32} {res : (Int32 × GS)} (h : fX11_note S a1 a2 a3 a4 a5 = some res) : gMet l E yX11_note cX11_note 6 (some .int) rmX11_note [gR E 54, .int a1, .int a2, .int a3, .int a4, .int a5] S (some (.int res.1)) res.2 :=
  g_met (by decide) (Nat.le_of_ble_eq_true rfl) rfl fun p e s m below meth c H ls hc hG hl => wX11_note_0 hc S a1 a2 a3 a4 a5 H [] ls hl hG h
abbrev rmX11_holds : Room := { frames := 1, cells := 0, slots := 0, locals := 25 }
def fX11_holds_65 (S : GS) (t1 : Int32) (a1 : Int32) (a2 : Int32) (a3 : Int32) (a4 : Int32) : Option (Int32 × GS) := gbd (fX11_note S t1 a1 a2 a3 a4) fun r2 S3 => (some (r2, S3))
set_option maxRecDepth 100000 in
set_option maxHeartbeats 4000000 in
theorem wX11_holds_65 {p : Program} {l : Launch} {e : Env} {s : State} {m : MethodId} {args : Array Value} {below : List Frame} {meth : Method} {c : Code} {E : GE} {res : (Int32 × GS)} (hc : GM E p s m args meth c RX11 cX11_holds 6 (some .int)) : ∀ (S : GS) (t1 : Int32) (a1 : Int32) (a2 : Int32) (a3 : Int32) (a4 : Int32) (H : Heap) (locs : List Loc) (ls : Array Slot), lv_has ls 6 [(1, .int a1), (2, .int a2), (3, .int a3), (4, .int a4)] → GX E S H locs → fX11_holds_65 S t1 a1 a2 a3 a4 = some res → W p l e rmX11_holds s m args below meth c H locs 0 0 (gZ E below args s (some (.int res.1)) res.2) (F0 m 65 ls [.int t1, gR E 54]) := by
  obtain ⟨hx, hb, -, -, -, hown, hts, -, -⟩ := id hc
  intro S t1 a1 a2 a3 a4 H locs ls hl hG h
  unfold fX11_holds_65 at h
  refine lv_iload_n hx hb dX11_holds_65 rfl (lv_at hl 0 rfl) ?_
  refine lv_iload_n hx hb dX11_holds_66 rfl (lv_at hl 1 rfl) ?_
  refine lv_iload_n hx hb dX11_holds_67 rfl (lv_at hl 2 rfl) ?_
  refine lv_iload hx hb dX11_holds_68 (lv_at hl 3 rfl) ?_
  obtain ⟨r2, S3, hm1, h⟩ := g_bd h
  refine g_callVi (As := [.int t1, .int a1, .int a2, .int a3, .int a4]) hc hG (mX11_note l E hm1) mlX11_288 mcX11_note miX11_note rfl rfl rfl rfl hl.1 rfl rfl ⟨by decide, by decide⟩ (Nat.le_of_ble_eq_true rfl) ⟨by decide, by decide⟩ dX11_holds_70 rfl (fun H locs hG => ?_)
  exact g_iret hc hG dX11_holds_73 h
def fX11_holds (S : GS) (a1 : Int32) (a2 : Int32) (a3 : Int32) (a4 : Int32) (a5 : Int32) : Option (Int32 × GS) := glet (gsi S 54 0 (0 : Int32)) fun S1 => gbv (fX11_isCase S1 a1) fun r3 => (if r3 = 0 then (some ((-1 : Int32), S1)) else (if a2 < 0 then (some ((-1 : Int32), S1)) else (if gib a1 32 = true then (if (S1.1 68 a1.toNatClampNeg) ≤ a2 then (some ((-1 : Int32), S1)) else gbv (fX11_isPoint S1 a3) fun r9 => (if r9 = 0 then (some ((-1 : Int32), S1)) else gbv (fX11_isFacts S1 a4) fun r12 => (if r12 = 0 then (some ((-1 : Int32), S1)) else (if (S1.1 54 41) = (120 : Int32) then (some ((-1 : Int32), S1)) else (if a5 = 0 then (fX11_holds_65 S1 (0 : Int32) a1 a2 a3 a4) else (fX11_holds_65 S1 (1 : Int32) a1 a2 a3 a4)))))) else none)))
set_option maxRecDepth 100000 in
set_option maxHeartbeats 4000000 in
theorem wX11_holds_0 {p : Program} {l : Launch} {e : Env} {s : State} {m : MethodId} {args : Array Value} {below : List Frame} {meth : Method} {c : Code} {E : GE} {res : (Int32 × GS)} (hc : GM E p s m args meth c RX11 cX11_holds 6 (some .int)) : ∀ (S : GS) (a1 : Int32) (a2 : Int32) (a3 : Int32) (a4 : Int32) (a5 : Int32) (H : Heap) (locs : List Loc) (ls : Array Slot), lv_has ls 6 [(0, gR E 54), (1, .int a1), (2, .int a2), (3, .int a3), (4, .int a4), (5, .int a5)] → GX E S H locs → fX11_holds S a1 a2 a3 a4 a5 = some res → W p l e rmX11_holds s m args below meth c H locs 0 0 (gZ E below args s (some (.int res.1)) res.2) (F0 m 0 ls []) := by
  obtain ⟨hx, hb, -, -, -, hown, hts, -, -⟩ := id hc
  intro S a1 a2 a3 a4 a5 H locs ls hl hG h
  unfold fX11_holds at h
  refine lv_aload_n hx hb dX11_holds_0 rfl (lv_at hl 0 rfl) ?_
  refine lv_iconst (v := (0 : Int32)) hx hb dX11_holds_1 (by decide) ?_
  refine g_putI hc hG 54 fpX11_115 rfl rfl rfl rfl dX11_holds_2 (fun S1 H locs eS1 hG => ?_)
  have h := g_let eS1 h
  refine lv_aload_n hx hb dX11_holds_5 rfl (lv_at hl 0 rfl) ?_
  refine lv_iload_n hx hb dX11_holds_6 rfl (lv_at hl 1 rfl) ?_
  obtain ⟨r3, hm2, h⟩ := g_bv h
  refine g_callVi (As := [.int a1]) hc hG (mX11_isCase l E hm2) mlX11_285 mcX11_isCase miX11_isCase rfl rfl rfl rfl hl.1 rfl rfl ⟨by decide, by decide⟩ (Nat.le_of_ble_eq_true rfl) ⟨by decide, by decide⟩ dX11_holds_7 rfl (fun H locs hG => ?_)
  refine lv_if_eq (tgt := 52) hx hb dX11_holds_10 (by decide) (fun c4 => ?_) (fun c4 => ?_)
  · have h := g_pos c4 h
    refine lv_iconst (v := (-1 : Int32)) hx hb dX11_holds_52 (by decide) ?_
    exact g_iret hc hG dX11_holds_53 h
  · have h := g_neg c4 h
    refine lv_iload_n hx hb dX11_holds_13 rfl (lv_at hl 2 rfl) ?_
    refine lv_if_lt (tgt := 52) hx hb dX11_holds_14 (by decide) (fun c5 => ?_) (fun c5 => ?_)
    · have h := g_pos c5 h
      refine lv_iconst (v := (-1 : Int32)) hx hb dX11_holds_52 (by decide) ?_
      exact g_iret hc hG dX11_holds_53 h
    · have h := g_neg c5 h
      refine lv_iload_n hx hb dX11_holds_17 rfl (lv_at hl 2 rfl) ?_
      refine lv_aload_n hx hb dX11_holds_18 rfl (lv_at hl 0 rfl) ?_
      refine g_getR hc hG 54 68 flX11_58 rfl rfl rfl dX11_holds_19 ?_
      refine lv_iload_n hx hb dX11_holds_22 rfl (lv_at hl 1 rfl) ?_
      obtain ⟨hi6, h⟩ := g_if h
      refine g_iald hc hG 68 32 (a1.toNatClampNeg) rfl rfl hi6 rfl dX11_holds_23 ?_
      refine lv_icmp_ge (tgt := 52) hx hb dX11_holds_24 (by decide) (fun c7 => ?_) (fun c7 => ?_)
      · have h := g_pos c7 h
        refine lv_iconst (v := (-1 : Int32)) hx hb dX11_holds_52 (by decide) ?_
        exact g_iret hc hG dX11_holds_53 h
      · have h := g_neg c7 h
        refine lv_aload_n hx hb dX11_holds_27 rfl (lv_at hl 0 rfl) ?_
        refine lv_iload_n hx hb dX11_holds_28 rfl (lv_at hl 3 rfl) ?_
        obtain ⟨r9, hm8, h⟩ := g_bv h
        refine g_callVi (As := [.int a3]) hc hG (mX11_isPoint l E hm8) mlX11_273 mcX11_isPoint miX11_isPoint rfl rfl rfl rfl hl.1 rfl rfl ⟨by decide, by decide⟩ (Nat.le_of_ble_eq_true rfl) ⟨by decide, by decide⟩ dX11_holds_29 rfl (fun H locs hG => ?_)
        refine lv_if_eq (tgt := 52) hx hb dX11_holds_32 (by decide) (fun c10 => ?_) (fun c10 => ?_)
        · have h := g_pos c10 h
          refine lv_iconst (v := (-1 : Int32)) hx hb dX11_holds_52 (by decide) ?_
          exact g_iret hc hG dX11_holds_53 h
        · have h := g_neg c10 h
          refine lv_iload hx hb dX11_holds_35 (lv_at hl 4 rfl) ?_
          obtain ⟨r12, hm11, h⟩ := g_bv h
          refine g_callSi (As := [.int a4]) hc hG (mX11_isFacts l E hm11) mlX11_279 mcX11_isFacts msX11_isFacts rfl hl.1 rfl rfl ⟨by decide, by decide⟩ (Nat.le_of_ble_eq_true rfl) ⟨by decide, by decide⟩ dX11_holds_37 rfl (fun H locs hG => ?_)
          refine lv_if_eq (tgt := 52) hx hb dX11_holds_40 (by decide) (fun c13 => ?_) (fun c13 => ?_)
          · have h := g_pos c13 h
            refine lv_iconst (v := (-1 : Int32)) hx hb dX11_holds_52 (by decide) ?_
            exact g_iret hc hG dX11_holds_53 h
          · have h := g_neg c13 h
            refine lv_aload_n hx hb dX11_holds_43 rfl (lv_at hl 0 rfl) ?_
            refine g_getI hc hG 54 flX11_282 rfl rfl dX11_holds_44 ?_
            refine lv_bipush (v := (120 : Int32)) hx hb dX11_holds_47 (by decide) ?_
            refine lv_icmp_ne (tgt := 54) hx hb dX11_holds_49 (by decide) (fun c14 => ?_) (fun c14 => ?_)
            · have h := g_neg c14 h
              refine lv_aload_n hx hb dX11_holds_54 rfl (lv_at hl 0 rfl) ?_
              refine lv_iload hx hb dX11_holds_55 (lv_at hl 5 rfl) ?_
              refine lv_if_eq (tgt := 64) hx hb dX11_holds_57 (by decide) (fun c15 => ?_) (fun c15 => ?_)
              · have h := g_pos c15 h
                refine lv_iconst (v := (0 : Int32)) hx hb dX11_holds_64 (by decide) ?_
                exact wX11_holds_65 hc S1 (0 : Int32) a1 a2 a3 a4 _ _ _ (lv_sub hl [1, 2, 3, 4] rfl) hG h
              · have h := g_neg c15 h
                refine lv_iconst (v := (1 : Int32)) hx hb dX11_holds_60 (by decide) ?_
                refine lv_goto (tgt := 65) hx hb dX11_holds_61 (by decide) ?_
                exact wX11_holds_65 hc S1 (1 : Int32) a1 a2 a3 a4 _ _ _ (lv_sub hl [1, 2, 3, 4] rfl) hG h
            · have h := g_pos c14 h
              refine lv_iconst (v := (-1 : Int32)) hx hb dX11_holds_52 (by decide) ?_
              exact g_iret hc hG dX11_holds_53 h
theorem mX11_holds (l : Launch) (E : GE) {S : GS} {a1 : Int32} {a2 : Int32} {a3 : Int32} {a4 : Int32} {a5 : Int32} {res : (Int32 × GS)} (h : fX11_holds S a1 a2 a3 a4 a5 = some res) : gMet l E yX11_holds cX11_holds 6 (some .int) rmX11_holds [gR E 54, .int a1, .int a2, .int a3, .int a4, .int a5] S (some (.int res.1)) res.2 :=
  g_met (by decide) (Nat.le_of_ble_eq_true rfl) rfl fun p e s m below meth c H ls hc hG hl => wX11_holds_0 hc S a1 a2 a3 a4 a5 H [] ls hl hG h
abbrev rmX11_isLater : Room := { frames := 0, cells := 0, slots := 0, locals := 0 }
def fX11_isLater (S : GS) (a1 : Int32) (a2 : Int32) : Option Int32 := (if gib a1 32 = true then (if gib a2 32 = true then (if (S.1 67 a2.toNatClampNeg) < (S.1 67 a1.toNatClampNeg) then (some (1 : Int32)) else (if (S.1 67 a1.toNatClampNeg) = (S.1 67 a2.toNatClampNeg) then (if a1 ≤ a2 then (some (0 : Int32)) else (some (1 : Int32))) else (some (0 : Int32)))) else none) else none)
set_option maxRecDepth 100000 in
set_option maxHeartbeats 4000000 in
theorem wX11_isLater_0 {p : Program} {l : Launch} {e : Env} {s : State} {m : MethodId} {args : Array Value} {below : List Frame} {meth : Method} {c : Code} {E : GE} {res : Int32} (hc : GM E p s m args meth c RX11 cX11_isLater 3 (some .boolean)) : ∀ (S : GS) (a1 : Int32) (a2 : Int32) (H : Heap) (locs : List Loc) (ls : Array Slot), lv_has ls 3 [(0, gR E 54), (1, .int a1), (2, .int a2)] → GX E S H locs → fX11_isLater S a1 a2 = some res → W p l e rmX11_isLater s m args below meth c H locs 0 0 (gZ E below args s (some (.int res)) S) (F0 m 0 ls []) := by
  obtain ⟨hx, hb, -, -, -, hown, hts, -, -⟩ := id hc
  intro S a1 a2 H locs ls hl hG h
  unfold fX11_isLater at h
  refine lv_aload_n hx hb dX11_isLater_0 rfl (lv_at hl 0 rfl) ?_
  refine g_getR hc hG 54 67 flX11_55 rfl rfl rfl dX11_isLater_1 ?_
  refine lv_iload_n hx hb dX11_isLater_4 rfl (lv_at hl 1 rfl) ?_
  obtain ⟨hi1, h⟩ := g_if h
  refine g_iald hc hG 67 32 (a1.toNatClampNeg) rfl rfl hi1 rfl dX11_isLater_5 ?_
  refine lv_aload_n hx hb dX11_isLater_6 rfl (lv_at hl 0 rfl) ?_
  refine g_getR hc hG 54 67 flX11_55 rfl rfl rfl dX11_isLater_7 ?_
  refine lv_iload_n hx hb dX11_isLater_10 rfl (lv_at hl 2 rfl) ?_
  obtain ⟨hi2, h⟩ := g_if h
  refine g_iald hc hG 67 32 (a2.toNatClampNeg) rfl rfl hi2 rfl dX11_isLater_11 ?_
  refine lv_icmp_gt (tgt := 35) hx hb dX11_isLater_12 (by decide) (fun c3 => ?_) (fun c3 => ?_)
  · have h := g_pos c3 h
    refine lv_iconst (v := (1 : Int32)) hx hb dX11_isLater_35 (by decide) ?_
    refine lv_goto (tgt := 40) hx hb dX11_isLater_36 (by decide) ?_
    exact g_zretp hc hG (Or.inr rfl) dX11_isLater_40 h
  · have h := g_neg c3 h
    refine lv_aload_n hx hb dX11_isLater_15 rfl (lv_at hl 0 rfl) ?_
    refine g_getR hc hG 54 67 flX11_55 rfl rfl rfl dX11_isLater_16 ?_
    refine lv_iload_n hx hb dX11_isLater_19 rfl (lv_at hl 1 rfl) ?_
    refine g_iald hc hG 67 32 (a1.toNatClampNeg) rfl rfl hi1 rfl dX11_isLater_20 ?_
    refine lv_aload_n hx hb dX11_isLater_21 rfl (lv_at hl 0 rfl) ?_
    refine g_getR hc hG 54 67 flX11_55 rfl rfl rfl dX11_isLater_22 ?_
    refine lv_iload_n hx hb dX11_isLater_25 rfl (lv_at hl 2 rfl) ?_
    refine g_iald hc hG 67 32 (a2.toNatClampNeg) rfl rfl hi2 rfl dX11_isLater_26 ?_
    refine lv_icmp_ne (tgt := 39) hx hb dX11_isLater_27 (by decide) (fun c4 => ?_) (fun c4 => ?_)
    · have h := g_neg c4 h
      refine lv_iconst (v := (0 : Int32)) hx hb dX11_isLater_39 (by decide) ?_
      exact g_zretp hc hG (Or.inl rfl) dX11_isLater_40 h
    · have h := g_pos c4 h
      refine lv_iload_n hx hb dX11_isLater_30 rfl (lv_at hl 1 rfl) ?_
      refine lv_iload_n hx hb dX11_isLater_31 rfl (lv_at hl 2 rfl) ?_
      refine lv_icmp_le (tgt := 39) hx hb dX11_isLater_32 (by decide) (fun c5 => ?_) (fun c5 => ?_)
      · have h := g_pos c5 h
        refine lv_iconst (v := (0 : Int32)) hx hb dX11_isLater_39 (by decide) ?_
        exact g_zretp hc hG (Or.inl rfl) dX11_isLater_40 h
      · have h := g_neg c5 h
        refine lv_iconst (v := (1 : Int32)) hx hb dX11_isLater_35 (by decide) ?_
        refine lv_goto (tgt := 40) hx hb dX11_isLater_36 (by decide) ?_
        exact g_zretp hc hG (Or.inr rfl) dX11_isLater_40 h
theorem mX11_isLater (l : Launch) (E : GE) {S : GS} {a1 : Int32} {a2 : Int32} {res : Int32} (h : fX11_isLater S a1 a2 = some res) : gMet l E yX11_isLater cX11_isLater 3 (some .boolean) rmX11_isLater [gR E 54, .int a1, .int a2] S (some (.int res)) S :=
  g_met (by decide) (Nat.le_of_ble_eq_true rfl) rfl fun p e s m below meth c H ls hc hG hl => wX11_isLater_0 hc S a1 a2 H [] ls hl hG h
abbrev rmX11_treats : Room := { frames := 1, cells := 0, slots := 0, locals := 25 }
def fX11_treats_54 (S : GS) (a1 : Int32) (a2 : Int32) (a3 : Int32) (a4 : Int32) : Option (Int32 × GS) := (if (S.1 54 41) = (120 : Int32) then (some ((-1 : Int32), S)) else gbd (fX11_note S a1 a2 a3 a4 (0 : Int32)) fun r3 S4 => (some (r3, S4)))
set_option maxRecDepth 100000 in
set_option maxHeartbeats 4000000 in
theorem wX11_treats_54 {p : Program} {l : Launch} {e : Env} {s : State} {m : MethodId} {args : Array Value} {below : List Frame} {meth : Method} {c : Code} {E : GE} {res : (Int32 × GS)} (hc : GM E p s m args meth c RX11 cX11_treats 5 (some .int)) : ∀ (S : GS) (a1 : Int32) (a2 : Int32) (a3 : Int32) (a4 : Int32) (H : Heap) (locs : List Loc) (ls : Array Slot), lv_has ls 5 [(0, gR E 54), (1, .int a1), (2, .int a2), (3, .int a3), (4, .int a4)] → GX E S H locs → fX11_treats_54 S a1 a2 a3 a4 = some res → W p l e rmX11_treats s m args below meth c H locs 0 0 (gZ E below args s (some (.int res.1)) res.2) (F0 m 54 ls []) := by
  obtain ⟨hx, hb, -, -, -, hown, hts, -, -⟩ := id hc
  intro S a1 a2 a3 a4 H locs ls hl hG h
  unfold fX11_treats_54 at h
  refine lv_aload_n hx hb dX11_treats_54 rfl (lv_at hl 0 rfl) ?_
  refine g_getI hc hG 54 flX11_282 rfl rfl dX11_treats_55 ?_
  refine lv_bipush (v := (120 : Int32)) hx hb dX11_treats_58 (by decide) ?_
  refine lv_icmp_ne (tgt := 65) hx hb dX11_treats_60 (by decide) (fun c1 => ?_) (fun c1 => ?_)
  · have h := g_neg c1 h
    refine lv_aload_n hx hb dX11_treats_65 rfl (lv_at hl 0 rfl) ?_
    refine lv_iload_n hx hb dX11_treats_66 rfl (lv_at hl 1 rfl) ?_
    refine lv_iload_n hx hb dX11_treats_67 rfl (lv_at hl 2 rfl) ?_
    refine lv_iload_n hx hb dX11_treats_68 rfl (lv_at hl 3 rfl) ?_
    refine lv_iload hx hb dX11_treats_69 (lv_at hl 4 rfl) ?_
    refine lv_iconst (v := (0 : Int32)) hx hb dX11_treats_71 (by decide) ?_
    obtain ⟨r3, S4, hm2, h⟩ := g_bd h
    refine g_callVi (As := [.int a1, .int a2, .int a3, .int a4, .int (0 : Int32)]) hc hG (mX11_note l E hm2) mlX11_288 mcX11_note miX11_note rfl rfl rfl rfl hl.1 rfl rfl ⟨by decide, by decide⟩ (Nat.le_of_ble_eq_true rfl) ⟨by decide, by decide⟩ dX11_treats_72 rfl (fun H locs hG => ?_)
    exact g_iret hc hG dX11_treats_75 h
  · have h := g_pos c1 h
    refine lv_iconst (v := (-1 : Int32)) hx hb dX11_treats_63 (by decide) ?_
    exact g_iret hc hG dX11_treats_64 h
def fX11_treats (S : GS) (a1 : Int32) (a2 : Int32) (a3 : Int32) (a4 : Int32) : Option (Int32 × GS) := glet (gsi S 54 0 (0 : Int32)) fun S1 => (if a1 < (2 : Int32) then (some ((-1 : Int32), S1)) else (if (4 : Int32) < a1 then (some ((-1 : Int32), S1)) else gbv (fX11_isCase S1 a2) fun r5 => (if r5 = 0 then (some ((-1 : Int32), S1)) else gbv (fX11_isCase S1 a3) fun r8 => (if r8 = 0 then (some ((-1 : Int32), S1)) else gbv (fX11_isLater S1 a2 a3) fun r11 => (if r11 = 0 then (some ((-1 : Int32), S1)) else (if a1 = (4 : Int32) then (fX11_treats_54 S1 a1 a2 a3 a4) else gbv (fX11_isPoint S1 a4) fun r15 => (if r15 = 0 then (some ((-1 : Int32), S1)) else (fX11_treats_54 S1 a1 a2 a3 a4))))))))
set_option maxRecDepth 100000 in
set_option maxHeartbeats 4000000 in
theorem wX11_treats_0 {p : Program} {l : Launch} {e : Env} {s : State} {m : MethodId} {args : Array Value} {below : List Frame} {meth : Method} {c : Code} {E : GE} {res : (Int32 × GS)} (hc : GM E p s m args meth c RX11 cX11_treats 5 (some .int)) : ∀ (S : GS) (a1 : Int32) (a2 : Int32) (a3 : Int32) (a4 : Int32) (H : Heap) (locs : List Loc) (ls : Array Slot), lv_has ls 5 [(0, gR E 54), (1, .int a1), (2, .int a2), (3, .int a3), (4, .int a4)] → GX E S H locs → fX11_treats S a1 a2 a3 a4 = some res → W p l e rmX11_treats s m args below meth c H locs 0 0 (gZ E below args s (some (.int res.1)) res.2) (F0 m 0 ls []) := by
  obtain ⟨hx, hb, -, -, -, hown, hts, -, -⟩ := id hc
  intro S a1 a2 a3 a4 H locs ls hl hG h
  unfold fX11_treats at h
  refine lv_aload_n hx hb dX11_treats_0 rfl (lv_at hl 0 rfl) ?_
  refine lv_iconst (v := (0 : Int32)) hx hb dX11_treats_1 (by decide) ?_
  refine g_putI hc hG 54 fpX11_115 rfl rfl rfl rfl dX11_treats_2 (fun S1 H locs eS1 hG => ?_)
  have h := g_let eS1 h
  refine lv_iload_n hx hb dX11_treats_5 rfl (lv_at hl 1 rfl) ?_
  refine lv_iconst (v := (2 : Int32)) hx hb dX11_treats_6 (by decide) ?_
  refine lv_icmp_lt (tgt := 63) hx hb dX11_treats_7 (by decide) (fun c2 => ?_) (fun c2 => ?_)
  · have h := g_pos c2 h
    refine lv_iconst (v := (-1 : Int32)) hx hb dX11_treats_63 (by decide) ?_
    exact g_iret hc hG dX11_treats_64 h
  · have h := g_neg c2 h
    refine lv_iload_n hx hb dX11_treats_10 rfl (lv_at hl 1 rfl) ?_
    refine lv_iconst (v := (4 : Int32)) hx hb dX11_treats_11 (by decide) ?_
    refine lv_icmp_gt (tgt := 63) hx hb dX11_treats_12 (by decide) (fun c3 => ?_) (fun c3 => ?_)
    · have h := g_pos c3 h
      refine lv_iconst (v := (-1 : Int32)) hx hb dX11_treats_63 (by decide) ?_
      exact g_iret hc hG dX11_treats_64 h
    · have h := g_neg c3 h
      refine lv_aload_n hx hb dX11_treats_15 rfl (lv_at hl 0 rfl) ?_
      refine lv_iload_n hx hb dX11_treats_16 rfl (lv_at hl 2 rfl) ?_
      obtain ⟨r5, hm4, h⟩ := g_bv h
      refine g_callVi (As := [.int a2]) hc hG (mX11_isCase l E hm4) mlX11_285 mcX11_isCase miX11_isCase rfl rfl rfl rfl hl.1 rfl rfl ⟨by decide, by decide⟩ (Nat.le_of_ble_eq_true rfl) ⟨by decide, by decide⟩ dX11_treats_17 rfl (fun H locs hG => ?_)
      refine lv_if_eq (tgt := 63) hx hb dX11_treats_20 (by decide) (fun c6 => ?_) (fun c6 => ?_)
      · have h := g_pos c6 h
        refine lv_iconst (v := (-1 : Int32)) hx hb dX11_treats_63 (by decide) ?_
        exact g_iret hc hG dX11_treats_64 h
      · have h := g_neg c6 h
        refine lv_aload_n hx hb dX11_treats_23 rfl (lv_at hl 0 rfl) ?_
        refine lv_iload_n hx hb dX11_treats_24 rfl (lv_at hl 3 rfl) ?_
        obtain ⟨r8, hm7, h⟩ := g_bv h
        refine g_callVi (As := [.int a3]) hc hG (mX11_isCase l E hm7) mlX11_285 mcX11_isCase miX11_isCase rfl rfl rfl rfl hl.1 rfl rfl ⟨by decide, by decide⟩ (Nat.le_of_ble_eq_true rfl) ⟨by decide, by decide⟩ dX11_treats_25 rfl (fun H locs hG => ?_)
        refine lv_if_eq (tgt := 63) hx hb dX11_treats_28 (by decide) (fun c9 => ?_) (fun c9 => ?_)
        · have h := g_pos c9 h
          refine lv_iconst (v := (-1 : Int32)) hx hb dX11_treats_63 (by decide) ?_
          exact g_iret hc hG dX11_treats_64 h
        · have h := g_neg c9 h
          refine lv_aload_n hx hb dX11_treats_31 rfl (lv_at hl 0 rfl) ?_
          refine lv_iload_n hx hb dX11_treats_32 rfl (lv_at hl 2 rfl) ?_
          refine lv_iload_n hx hb dX11_treats_33 rfl (lv_at hl 3 rfl) ?_
          obtain ⟨r11, hm10, h⟩ := g_bv h
          refine g_callVi (As := [.int a2, .int a3]) hc hG (mX11_isLater l E hm10) mlX11_292 mcX11_isLater miX11_isLater rfl rfl rfl rfl hl.1 rfl rfl ⟨by decide, by decide⟩ (Nat.le_of_ble_eq_true rfl) ⟨by decide, by decide⟩ dX11_treats_34 rfl (fun H locs hG => ?_)
          refine lv_if_eq (tgt := 63) hx hb dX11_treats_37 (by decide) (fun c12 => ?_) (fun c12 => ?_)
          · have h := g_pos c12 h
            refine lv_iconst (v := (-1 : Int32)) hx hb dX11_treats_63 (by decide) ?_
            exact g_iret hc hG dX11_treats_64 h
          · have h := g_neg c12 h
            refine lv_iload_n hx hb dX11_treats_40 rfl (lv_at hl 1 rfl) ?_
            refine lv_iconst (v := (4 : Int32)) hx hb dX11_treats_41 (by decide) ?_
            refine lv_icmp_eq (tgt := 54) hx hb dX11_treats_42 (by decide) (fun c13 => ?_) (fun c13 => ?_)
            · have h := g_pos c13 h
              exact wX11_treats_54 hc S1 a1 a2 a3 a4 _ _ _ (lv_sub hl [0, 1, 2, 3, 4] rfl) hG h
            · have h := g_neg c13 h
              refine lv_aload_n hx hb dX11_treats_45 rfl (lv_at hl 0 rfl) ?_
              refine lv_iload hx hb dX11_treats_46 (lv_at hl 4 rfl) ?_
              obtain ⟨r15, hm14, h⟩ := g_bv h
              refine g_callVi (As := [.int a4]) hc hG (mX11_isPoint l E hm14) mlX11_273 mcX11_isPoint miX11_isPoint rfl rfl rfl rfl hl.1 rfl rfl ⟨by decide, by decide⟩ (Nat.le_of_ble_eq_true rfl) ⟨by decide, by decide⟩ dX11_treats_48 rfl (fun H locs hG => ?_)
              refine lv_if_eq (tgt := 63) hx hb dX11_treats_51 (by decide) (fun c16 => ?_) (fun c16 => ?_)
              · have h := g_pos c16 h
                refine lv_iconst (v := (-1 : Int32)) hx hb dX11_treats_63 (by decide) ?_
                exact g_iret hc hG dX11_treats_64 h
              · have h := g_neg c16 h
                exact wX11_treats_54 hc S1 a1 a2 a3 a4 _ _ _ (lv_sub hl [0, 1, 2, 3, 4] rfl) hG h
theorem mX11_treats (l : Launch) (E : GE) {S : GS} {a1 : Int32} {a2 : Int32} {a3 : Int32} {a4 : Int32} {res : (Int32 × GS)} (h : fX11_treats S a1 a2 a3 a4 = some res) : gMet l E yX11_treats cX11_treats 5 (some .int) rmX11_treats [gR E 54, .int a1, .int a2, .int a3, .int a4] S (some (.int res.1)) res.2 :=
  g_met (by decide) (Nat.le_of_ble_eq_true rfl) rfl fun p e s m below meth c H ls hc hG hl => wX11_treats_0 hc S a1 a2 a3 a4 H [] ls hl hG h
abbrev rmX11_statute : Room := { frames := 1, cells := 0, slots := 0, locals := 25 }
def fX11_statute_42 (S : GS) (t1 : Int32) (a1 : Int32) (a2 : Int32) : Option (Int32 × GS) := gbd (fX11_note S t1 (0 : Int32) a2 a1 (0 : Int32)) fun r2 S3 => (some (r2, S3))
set_option maxRecDepth 100000 in
set_option maxHeartbeats 4000000 in
theorem wX11_statute_42 {p : Program} {l : Launch} {e : Env} {s : State} {m : MethodId} {args : Array Value} {below : List Frame} {meth : Method} {c : Code} {E : GE} {res : (Int32 × GS)} (hc : GM E p s m args meth c RX11 cX11_statute 4 (some .int)) : ∀ (S : GS) (t1 : Int32) (a1 : Int32) (a2 : Int32) (H : Heap) (locs : List Loc) (ls : Array Slot), lv_has ls 4 [(1, .int a1), (2, .int a2)] → GX E S H locs → fX11_statute_42 S t1 a1 a2 = some res → W p l e rmX11_statute s m args below meth c H locs 0 0 (gZ E below args s (some (.int res.1)) res.2) (F0 m 42 ls [.int t1, gR E 54]) := by
  obtain ⟨hx, hb, -, -, -, hown, hts, -, -⟩ := id hc
  intro S t1 a1 a2 H locs ls hl hG h
  unfold fX11_statute_42 at h
  refine lv_iconst (v := (0 : Int32)) hx hb dX11_statute_42 (by decide) ?_
  refine lv_iload_n hx hb dX11_statute_43 rfl (lv_at hl 1 rfl) ?_
  refine lv_iload_n hx hb dX11_statute_44 rfl (lv_at hl 0 rfl) ?_
  refine lv_iconst (v := (0 : Int32)) hx hb dX11_statute_45 (by decide) ?_
  obtain ⟨r2, S3, hm1, h⟩ := g_bd h
  refine g_callVi (As := [.int t1, .int (0 : Int32), .int a2, .int a1, .int (0 : Int32)]) hc hG (mX11_note l E hm1) mlX11_288 mcX11_note miX11_note rfl rfl rfl rfl hl.1 rfl rfl ⟨by decide, by decide⟩ (Nat.le_of_ble_eq_true rfl) ⟨by decide, by decide⟩ dX11_statute_46 rfl (fun H locs hG => ?_)
  exact g_iret hc hG dX11_statute_49 h
def fX11_statute (S : GS) (a1 : Int32) (a2 : Int32) (a3 : Int32) : Option (Int32 × GS) := glet (gsi S 54 0 (0 : Int32)) fun S1 => gbv (fX11_isPoint S1 a1) fun r3 => (if r3 = 0 then (some ((-1 : Int32), S1)) else gbv (fX11_isDay S1 a2) fun r6 => (if r6 = 0 then (some ((-1 : Int32), S1)) else (if (S1.1 54 41) = (120 : Int32) then (some ((-1 : Int32), S1)) else (if a3 = 0 then (fX11_statute_42 S1 (5 : Int32) a1 a2) else (fX11_statute_42 S1 (6 : Int32) a1 a2)))))
set_option maxRecDepth 100000 in
set_option maxHeartbeats 4000000 in
theorem wX11_statute_0 {p : Program} {l : Launch} {e : Env} {s : State} {m : MethodId} {args : Array Value} {below : List Frame} {meth : Method} {c : Code} {E : GE} {res : (Int32 × GS)} (hc : GM E p s m args meth c RX11 cX11_statute 4 (some .int)) : ∀ (S : GS) (a1 : Int32) (a2 : Int32) (a3 : Int32) (H : Heap) (locs : List Loc) (ls : Array Slot), lv_has ls 4 [(0, gR E 54), (1, .int a1), (2, .int a2), (3, .int a3)] → GX E S H locs → fX11_statute S a1 a2 a3 = some res → W p l e rmX11_statute s m args below meth c H locs 0 0 (gZ E below args s (some (.int res.1)) res.2) (F0 m 0 ls []) := by
  obtain ⟨hx, hb, -, -, -, hown, hts, -, -⟩ := id hc
  intro S a1 a2 a3 H locs ls hl hG h
  unfold fX11_statute at h
  refine lv_aload_n hx hb dX11_statute_0 rfl (lv_at hl 0 rfl) ?_
  refine lv_iconst (v := (0 : Int32)) hx hb dX11_statute_1 (by decide) ?_
  refine g_putI hc hG 54 fpX11_115 rfl rfl rfl rfl dX11_statute_2 (fun S1 H locs eS1 hG => ?_)
  have h := g_let eS1 h
  refine lv_aload_n hx hb dX11_statute_5 rfl (lv_at hl 0 rfl) ?_
  refine lv_iload_n hx hb dX11_statute_6 rfl (lv_at hl 1 rfl) ?_
  obtain ⟨r3, hm2, h⟩ := g_bv h
  refine g_callVi (As := [.int a1]) hc hG (mX11_isPoint l E hm2) mlX11_273 mcX11_isPoint miX11_isPoint rfl rfl rfl rfl hl.1 rfl rfl ⟨by decide, by decide⟩ (Nat.le_of_ble_eq_true rfl) ⟨by decide, by decide⟩ dX11_statute_7 rfl (fun H locs hG => ?_)
  refine lv_if_eq (tgt := 29) hx hb dX11_statute_10 (by decide) (fun c4 => ?_) (fun c4 => ?_)
  · have h := g_pos c4 h
    refine lv_iconst (v := (-1 : Int32)) hx hb dX11_statute_29 (by decide) ?_
    exact g_iret hc hG dX11_statute_30 h
  · have h := g_neg c4 h
    refine lv_iload_n hx hb dX11_statute_13 rfl (lv_at hl 2 rfl) ?_
    obtain ⟨r6, hm5, h⟩ := g_bv h
    refine g_callSi (As := [.int a2]) hc hG (mX11_isDay l E hm5) mlX11_296 mcX11_isDay msX11_isDay rfl hl.1 rfl rfl ⟨by decide, by decide⟩ (Nat.le_of_ble_eq_true rfl) ⟨by decide, by decide⟩ dX11_statute_14 rfl (fun H locs hG => ?_)
    refine lv_if_eq (tgt := 29) hx hb dX11_statute_17 (by decide) (fun c7 => ?_) (fun c7 => ?_)
    · have h := g_pos c7 h
      refine lv_iconst (v := (-1 : Int32)) hx hb dX11_statute_29 (by decide) ?_
      exact g_iret hc hG dX11_statute_30 h
    · have h := g_neg c7 h
      refine lv_aload_n hx hb dX11_statute_20 rfl (lv_at hl 0 rfl) ?_
      refine g_getI hc hG 54 flX11_282 rfl rfl dX11_statute_21 ?_
      refine lv_bipush (v := (120 : Int32)) hx hb dX11_statute_24 (by decide) ?_
      refine lv_icmp_ne (tgt := 31) hx hb dX11_statute_26 (by decide) (fun c8 => ?_) (fun c8 => ?_)
      · have h := g_neg c8 h
        refine lv_aload_n hx hb dX11_statute_31 rfl (lv_at hl 0 rfl) ?_
        refine lv_iload_n hx hb dX11_statute_32 rfl (lv_at hl 3 rfl) ?_
        refine lv_if_eq (tgt := 41) hx hb dX11_statute_33 (by decide) (fun c9 => ?_) (fun c9 => ?_)
        · have h := g_pos c9 h
          refine lv_iconst (v := (5 : Int32)) hx hb dX11_statute_41 (by decide) ?_
          exact wX11_statute_42 hc S1 (5 : Int32) a1 a2 _ _ _ (lv_sub hl [1, 2] rfl) hG h
        · have h := g_neg c9 h
          refine lv_bipush (v := (6 : Int32)) hx hb dX11_statute_36 (by decide) ?_
          refine lv_goto (tgt := 42) hx hb dX11_statute_38 (by decide) ?_
          exact wX11_statute_42 hc S1 (6 : Int32) a1 a2 _ _ _ (lv_sub hl [1, 2] rfl) hG h
      · have h := g_pos c8 h
        refine lv_iconst (v := (-1 : Int32)) hx hb dX11_statute_29 (by decide) ?_
        exact g_iret hc hG dX11_statute_30 h
theorem mX11_statute (l : Launch) (E : GE) {S : GS} {a1 : Int32} {a2 : Int32} {a3 : Int32} {res : (Int32 × GS)} (h : fX11_statute S a1 a2 a3 = some res) : gMet l E yX11_statute cX11_statute 4 (some .int) rmX11_statute [gR E 54, .int a1, .int a2, .int a3] S (some (.int res.1)) res.2 :=
  g_met (by decide) (Nat.le_of_ble_eq_true rfl) rfl fun p e s m below meth c H ls hc hG hl => wX11_statute_0 hc S a1 a2 a3 H [] ls hl hG h
abbrev rmX11_join : Room := { frames := 1, cells := 0, slots := 0, locals := 25 }
def fX11_join (S : GS) (a1 : Int32) (a2 : Int32) : Option (Int32 × GS) := glet (gsi S 54 0 (0 : Int32)) fun S1 => gbv (fX11_isPoint S1 a1) fun r3 => (if r3 = 0 then (some ((-1 : Int32), S1)) else gbv (fX11_isPoint S1 a2) fun r6 => (if r6 = 0 then (some ((-1 : Int32), S1)) else (if a1 = a2 then (some ((-1 : Int32), S1)) else (if (S1.1 54 41) = (120 : Int32) then (some ((-1 : Int32), S1)) else gbd (fX11_note S1 (7 : Int32) a1 a2 (0 : Int32) (0 : Int32)) fun r11 S12 => (some (r11, S12))))))
set_option maxRecDepth 100000 in
set_option maxHeartbeats 4000000 in
theorem wX11_join_0 {p : Program} {l : Launch} {e : Env} {s : State} {m : MethodId} {args : Array Value} {below : List Frame} {meth : Method} {c : Code} {E : GE} {res : (Int32 × GS)} (hc : GM E p s m args meth c RX11 cX11_join 3 (some .int)) : ∀ (S : GS) (a1 : Int32) (a2 : Int32) (H : Heap) (locs : List Loc) (ls : Array Slot), lv_has ls 3 [(0, gR E 54), (1, .int a1), (2, .int a2)] → GX E S H locs → fX11_join S a1 a2 = some res → W p l e rmX11_join s m args below meth c H locs 0 0 (gZ E below args s (some (.int res.1)) res.2) (F0 m 0 ls []) := by
  obtain ⟨hx, hb, -, -, -, hown, hts, -, -⟩ := id hc
  intro S a1 a2 H locs ls hl hG h
  unfold fX11_join at h
  refine lv_aload_n hx hb dX11_join_0 rfl (lv_at hl 0 rfl) ?_
  refine lv_iconst (v := (0 : Int32)) hx hb dX11_join_1 (by decide) ?_
  refine g_putI hc hG 54 fpX11_115 rfl rfl rfl rfl dX11_join_2 (fun S1 H locs eS1 hG => ?_)
  have h := g_let eS1 h
  refine lv_aload_n hx hb dX11_join_5 rfl (lv_at hl 0 rfl) ?_
  refine lv_iload_n hx hb dX11_join_6 rfl (lv_at hl 1 rfl) ?_
  obtain ⟨r3, hm2, h⟩ := g_bv h
  refine g_callVi (As := [.int a1]) hc hG (mX11_isPoint l E hm2) mlX11_273 mcX11_isPoint miX11_isPoint rfl rfl rfl rfl hl.1 rfl rfl ⟨by decide, by decide⟩ (Nat.le_of_ble_eq_true rfl) ⟨by decide, by decide⟩ dX11_join_7 rfl (fun H locs hG => ?_)
  refine lv_if_eq (tgt := 35) hx hb dX11_join_10 (by decide) (fun c4 => ?_) (fun c4 => ?_)
  · have h := g_pos c4 h
    refine lv_iconst (v := (-1 : Int32)) hx hb dX11_join_35 (by decide) ?_
    exact g_iret hc hG dX11_join_36 h
  · have h := g_neg c4 h
    refine lv_aload_n hx hb dX11_join_13 rfl (lv_at hl 0 rfl) ?_
    refine lv_iload_n hx hb dX11_join_14 rfl (lv_at hl 2 rfl) ?_
    obtain ⟨r6, hm5, h⟩ := g_bv h
    refine g_callVi (As := [.int a2]) hc hG (mX11_isPoint l E hm5) mlX11_273 mcX11_isPoint miX11_isPoint rfl rfl rfl rfl hl.1 rfl rfl ⟨by decide, by decide⟩ (Nat.le_of_ble_eq_true rfl) ⟨by decide, by decide⟩ dX11_join_15 rfl (fun H locs hG => ?_)
    refine lv_if_eq (tgt := 35) hx hb dX11_join_18 (by decide) (fun c7 => ?_) (fun c7 => ?_)
    · have h := g_pos c7 h
      refine lv_iconst (v := (-1 : Int32)) hx hb dX11_join_35 (by decide) ?_
      exact g_iret hc hG dX11_join_36 h
    · have h := g_neg c7 h
      refine lv_iload_n hx hb dX11_join_21 rfl (lv_at hl 1 rfl) ?_
      refine lv_iload_n hx hb dX11_join_22 rfl (lv_at hl 2 rfl) ?_
      refine lv_icmp_eq (tgt := 35) hx hb dX11_join_23 (by decide) (fun c8 => ?_) (fun c8 => ?_)
      · have h := g_pos c8 h
        refine lv_iconst (v := (-1 : Int32)) hx hb dX11_join_35 (by decide) ?_
        exact g_iret hc hG dX11_join_36 h
      · have h := g_neg c8 h
        refine lv_aload_n hx hb dX11_join_26 rfl (lv_at hl 0 rfl) ?_
        refine g_getI hc hG 54 flX11_282 rfl rfl dX11_join_27 ?_
        refine lv_bipush (v := (120 : Int32)) hx hb dX11_join_30 (by decide) ?_
        refine lv_icmp_ne (tgt := 37) hx hb dX11_join_32 (by decide) (fun c9 => ?_) (fun c9 => ?_)
        · have h := g_neg c9 h
          refine lv_aload_n hx hb dX11_join_37 rfl (lv_at hl 0 rfl) ?_
          refine lv_bipush (v := (7 : Int32)) hx hb dX11_join_38 (by decide) ?_
          refine lv_iload_n hx hb dX11_join_40 rfl (lv_at hl 1 rfl) ?_
          refine lv_iload_n hx hb dX11_join_41 rfl (lv_at hl 2 rfl) ?_
          refine lv_iconst (v := (0 : Int32)) hx hb dX11_join_42 (by decide) ?_
          refine lv_iconst (v := (0 : Int32)) hx hb dX11_join_43 (by decide) ?_
          obtain ⟨r11, S12, hm10, h⟩ := g_bd h
          refine g_callVi (As := [.int (7 : Int32), .int a1, .int a2, .int (0 : Int32), .int (0 : Int32)]) hc hG (mX11_note l E hm10) mlX11_288 mcX11_note miX11_note rfl rfl rfl rfl hl.1 rfl rfl ⟨by decide, by decide⟩ (Nat.le_of_ble_eq_true rfl) ⟨by decide, by decide⟩ dX11_join_44 rfl (fun H locs hG => ?_)
          exact g_iret hc hG dX11_join_47 h
        · have h := g_pos c9 h
          refine lv_iconst (v := (-1 : Int32)) hx hb dX11_join_35 (by decide) ?_
          exact g_iret hc hG dX11_join_36 h
theorem mX11_join (l : Launch) (E : GE) {S : GS} {a1 : Int32} {a2 : Int32} {res : (Int32 × GS)} (h : fX11_join S a1 a2 = some res) : gMet l E yX11_join cX11_join 3 (some .int) rmX11_join [gR E 54, .int a1, .int a2] S (some (.int res.1)) res.2 :=
  g_met (by decide) (Nat.le_of_ble_eq_true rfl) rfl fun p e s m below meth c H ls hc hG hl => wX11_join_0 hc S a1 a2 H [] ls hl hG h
abbrev rmX11_strike : Room := { frames := 1, cells := 0, slots := 0, locals := 25 }
def fX11_strike (S : GS) (a1 : Int32) : Option (Int32 × GS) := glet (gsi S 54 0 (0 : Int32)) fun S1 => (if a1 < 0 then (some ((-1 : Int32), S1)) else (if (S1.1 54 41) ≤ a1 then (some ((-1 : Int32), S1)) else (if (S1.1 54 41) = (120 : Int32) then (some ((-1 : Int32), S1)) else gbd (fX11_note S1 (8 : Int32) a1 (0 : Int32) (0 : Int32) (0 : Int32)) fun r6 S7 => (some (r6, S7)))))
set_option maxRecDepth 100000 in
set_option maxHeartbeats 4000000 in
theorem wX11_strike_0 {p : Program} {l : Launch} {e : Env} {s : State} {m : MethodId} {args : Array Value} {below : List Frame} {meth : Method} {c : Code} {E : GE} {res : (Int32 × GS)} (hc : GM E p s m args meth c RX11 cX11_strike 2 (some .int)) : ∀ (S : GS) (a1 : Int32) (H : Heap) (locs : List Loc) (ls : Array Slot), lv_has ls 2 [(0, gR E 54), (1, .int a1)] → GX E S H locs → fX11_strike S a1 = some res → W p l e rmX11_strike s m args below meth c H locs 0 0 (gZ E below args s (some (.int res.1)) res.2) (F0 m 0 ls []) := by
  obtain ⟨hx, hb, -, -, -, hown, hts, -, -⟩ := id hc
  intro S a1 H locs ls hl hG h
  unfold fX11_strike at h
  refine lv_aload_n hx hb dX11_strike_0 rfl (lv_at hl 0 rfl) ?_
  refine lv_iconst (v := (0 : Int32)) hx hb dX11_strike_1 (by decide) ?_
  refine g_putI hc hG 54 fpX11_115 rfl rfl rfl rfl dX11_strike_2 (fun S1 H locs eS1 hG => ?_)
  have h := g_let eS1 h
  refine lv_iload_n hx hb dX11_strike_5 rfl (lv_at hl 1 rfl) ?_
  refine lv_if_lt (tgt := 26) hx hb dX11_strike_6 (by decide) (fun c2 => ?_) (fun c2 => ?_)
  · have h := g_pos c2 h
    refine lv_iconst (v := (-1 : Int32)) hx hb dX11_strike_26 (by decide) ?_
    exact g_iret hc hG dX11_strike_27 h
  · have h := g_neg c2 h
    refine lv_iload_n hx hb dX11_strike_9 rfl (lv_at hl 1 rfl) ?_
    refine lv_aload_n hx hb dX11_strike_10 rfl (lv_at hl 0 rfl) ?_
    refine g_getI hc hG 54 flX11_282 rfl rfl dX11_strike_11 ?_
    refine lv_icmp_ge (tgt := 26) hx hb dX11_strike_14 (by decide) (fun c3 => ?_) (fun c3 => ?_)
    · have h := g_pos c3 h
      refine lv_iconst (v := (-1 : Int32)) hx hb dX11_strike_26 (by decide) ?_
      exact g_iret hc hG dX11_strike_27 h
    · have h := g_neg c3 h
      refine lv_aload_n hx hb dX11_strike_17 rfl (lv_at hl 0 rfl) ?_
      refine g_getI hc hG 54 flX11_282 rfl rfl dX11_strike_18 ?_
      refine lv_bipush (v := (120 : Int32)) hx hb dX11_strike_21 (by decide) ?_
      refine lv_icmp_ne (tgt := 28) hx hb dX11_strike_23 (by decide) (fun c4 => ?_) (fun c4 => ?_)
      · have h := g_neg c4 h
        refine lv_aload_n hx hb dX11_strike_28 rfl (lv_at hl 0 rfl) ?_
        refine lv_bipush (v := (8 : Int32)) hx hb dX11_strike_29 (by decide) ?_
        refine lv_iload_n hx hb dX11_strike_31 rfl (lv_at hl 1 rfl) ?_
        refine lv_iconst (v := (0 : Int32)) hx hb dX11_strike_32 (by decide) ?_
        refine lv_iconst (v := (0 : Int32)) hx hb dX11_strike_33 (by decide) ?_
        refine lv_iconst (v := (0 : Int32)) hx hb dX11_strike_34 (by decide) ?_
        obtain ⟨r6, S7, hm5, h⟩ := g_bd h
        refine g_callVi (As := [.int (8 : Int32), .int a1, .int (0 : Int32), .int (0 : Int32), .int (0 : Int32)]) hc hG (mX11_note l E hm5) mlX11_288 mcX11_note miX11_note rfl rfl rfl rfl hl.1 rfl rfl ⟨by decide, by decide⟩ (Nat.le_of_ble_eq_true rfl) ⟨by decide, by decide⟩ dX11_strike_35 rfl (fun H locs hG => ?_)
        exact g_iret hc hG dX11_strike_38 h
      · have h := g_pos c4 h
        refine lv_iconst (v := (-1 : Int32)) hx hb dX11_strike_26 (by decide) ?_
        exact g_iret hc hG dX11_strike_27 h
theorem mX11_strike (l : Launch) (E : GE) {S : GS} {a1 : Int32} {res : (Int32 × GS)} (h : fX11_strike S a1 = some res) : gMet l E yX11_strike cX11_strike 2 (some .int) rmX11_strike [gR E 54, .int a1] S (some (.int res.1)) res.2 :=
  g_met (by decide) (Nat.le_of_ble_eq_true rfl) rfl fun p e s m below meth c H ls hc hG hl => wX11_strike_0 hc S a1 H [] ls hl hG h
abbrev rmX11_joins : Room := { frames := 1, cells := 0, slots := 0, locals := 21 }
def fX11_joins_111 (k25 : GS → Int32 → Option (Unit × GS)) : Nat → GS → Int32 → Int32 → Int32 → Int32 → Option (Unit × GS)
  | 0, _, _, _, _, _ => none
  | n + 1, S, a1, a2, a3, a4 => (if (S.1 54 33) ≤ a4 then glet (a1 + (1 : Int32)) fun v2 => (k25 S v2) else (if gib a4 12 = true then (if (S.1 79 a4.toNatClampNeg) = a3 then glet (gsi S 79 (a4.toNatClampNeg) a2) fun S6 => glet (a4 + (1 : Int32)) fun v7 => (fX11_joins_111 k25 n S6 a1 a2 a3 v7) else glet (a4 + (1 : Int32)) fun v5 => (fX11_joins_111 k25 n S a1 a2 a3 v5)) else none))
set_option maxRecDepth 100000 in
set_option maxHeartbeats 4000000 in
theorem wX11_joins_111 {p : Program} {l : Launch} {e : Env} {s : State} {m : MethodId} {args : Array Value} {below : List Frame} {meth : Method} {c : Code} {E : GE} {res : (Unit × GS)} {k25 : GS → Int32 → Option (Unit × GS)} (hc : GM E p s m args meth c RX11 cX11_joins 5 none) (hk25 : ∀ (S : GS) (a1 : Int32) (H : Heap) (locs : List Loc) (ls : Array Slot), lv_has ls 5 [(0, gR E 54), (1, .int a1)] → GX E S H locs → k25 S a1 = some res → W p l e rmX11_joins s m args below meth c H locs 0 0 (gZ E below args s none res.2) (F0 m 25 ls [])) : ∀ (n : Nat), ∀ (S : GS) (a1 : Int32) (a2 : Int32) (a3 : Int32) (a4 : Int32) (H : Heap) (locs : List Loc) (ls : Array Slot), lv_has ls 5 [(0, gR E 54), (1, .int a1), (2, .int a2), (3, .int a3), (4, .int a4)] → GX E S H locs → fX11_joins_111 k25 n S a1 a2 a3 a4 = some res → W p l e rmX11_joins s m args below meth c H locs 0 0 (gZ E below args s none res.2) (F0 m 111 ls []) := by
  obtain ⟨hx, hb, -, -, -, hown, hts, -, -⟩ := id hc
  intro n
  induction n with
  | zero => intro S a1 a2 a3 a4 H locs ls hl hG h; cases h
  | succ n ih =>
    intro S a1 a2 a3 a4 H locs ls hl hG h
    rw [fX11_joins_111] at h
    refine lv_iload hx hb dX11_joins_111 (lv_at hl 4 rfl) ?_
    refine lv_aload_n hx hb dX11_joins_113 rfl (lv_at hl 0 rfl) ?_
    refine g_getI hc hG 54 flX11_267 rfl rfl dX11_joins_114 ?_
    refine lv_icmp_ge (tgt := 145) hx hb dX11_joins_117 (by decide) (fun c1 => ?_) (fun c1 => ?_)
    · have h := g_pos c1 h
      obtain ⟨v2, ev2⟩ : ∃ y : Int32, y = (a1 + (1 : Int32)) := ⟨_, rfl⟩
      have h := g_let ev2 h
      refine lv_iinc (v := v2) (lv' := [(1, .int v2), (0, gR E 54), (2, .int a2), (3, .int a3), (4, .int a4)]) hx hb dX11_joins_145 hl (k := 1) rfl (by rw [ev2]; rfl) (by decide) rfl (fun ls hl => ?_)
      refine lv_goto (tgt := 25) hx hb dX11_joins_148 (by decide) ?_
      exact hk25 S v2 _ _ _ (lv_sub hl [1, 0] rfl) hG h
    · have h := g_neg c1 h
      refine lv_aload_n hx hb dX11_joins_120 rfl (lv_at hl 0 rfl) ?_
      refine g_getR hc hG 54 79 flX11_91 rfl rfl rfl dX11_joins_121 ?_
      refine lv_iload hx hb dX11_joins_124 (lv_at hl 4 rfl) ?_
      obtain ⟨hi3, h⟩ := g_if h
      refine g_iald hc hG 79 12 (a4.toNatClampNeg) rfl rfl hi3 rfl dX11_joins_126 ?_
      refine lv_iload_n hx hb dX11_joins_127 rfl (lv_at hl 3 rfl) ?_
      refine lv_icmp_ne (tgt := 139) hx hb dX11_joins_128 (by decide) (fun c4 => ?_) (fun c4 => ?_)
      · have h := g_neg c4 h
        obtain ⟨v5, ev5⟩ : ∃ y : Int32, y = (a4 + (1 : Int32)) := ⟨_, rfl⟩
        have h := g_let ev5 h
        refine lv_iinc (v := v5) (lv' := [(4, .int v5), (0, gR E 54), (1, .int a1), (2, .int a2), (3, .int a3)]) hx hb dX11_joins_139 hl (k := 4) rfl (by rw [ev5]; rfl) (by decide) rfl (fun ls hl => ?_)
        refine lv_goto (tgt := 111) hx hb dX11_joins_142 (by decide) ?_
        exact ih S a1 a2 a3 v5 _ _ _ (lv_sub hl [1, 2, 3, 4, 0] rfl) hG h
      · have h := g_pos c4 h
        refine lv_aload_n hx hb dX11_joins_131 rfl (lv_at hl 0 rfl) ?_
        refine g_getR hc hG 54 79 flX11_91 rfl rfl rfl dX11_joins_132 ?_
        refine lv_iload hx hb dX11_joins_135 (lv_at hl 4 rfl) ?_
        refine lv_iload_n hx hb dX11_joins_137 rfl (lv_at hl 2 rfl) ?_
        refine g_iast hc hG 79 12 (a4.toNatClampNeg) rfl rfl hi3 rfl dX11_joins_138 (fun S6 H locs eS6 hG => ?_)
        have h := g_let eS6 h
        obtain ⟨v7, ev7⟩ : ∃ y : Int32, y = (a4 + (1 : Int32)) := ⟨_, rfl⟩
        have h := g_let ev7 h
        refine lv_iinc (v := v7) (lv' := [(4, .int v7), (0, gR E 54), (1, .int a1), (2, .int a2), (3, .int a3)]) hx hb dX11_joins_139 hl (k := 4) rfl (by rw [ev7]; rfl) (by decide) rfl (fun ls hl => ?_)
        refine lv_goto (tgt := 111) hx hb dX11_joins_142 (by decide) ?_
        exact ih S6 a1 a2 a3 v7 _ _ _ (lv_sub hl [1, 2, 3, 4, 0] rfl) hG h
def fX11_joins_186 (k176 : GS → Int32 → Option (Unit × GS)) : Nat → GS → Int32 → Int32 → Option (Unit × GS)
  | 0, _, _, _ => none
  | n + 1, S, a1, a2 => (if (S.1 54 33) ≤ a2 then glet (a1 + (1 : Int32)) fun v2 => (k176 S v2) else (if gib a1 12 = true then (if (((S.1 65 a1.toNatClampNeg) >>> (a2 &&& 31)) &&& (1 : Int32)) = (1 : Int32) then (if gib a2 12 = true then (if (S.1 79 a1.toNatClampNeg) = (S.1 79 a2.toNatClampNeg) then glet (a2 + (1 : Int32)) fun v8 => (fX11_joins_186 k176 n S a1 v8) else (if gib (S.1 79 a1.toNatClampNeg) 12 = true then glet (gsi S 80 (((S.1 79 a1.toNatClampNeg)).toNatClampNeg) ((S.1 80 ((S.1 79 a1.toNatClampNeg)).toNatClampNeg) ||| ((1 : Int32) <<< ((S.1 79 a2.toNatClampNeg) &&& 31)))) fun S10 => glet (a2 + (1 : Int32)) fun v11 => (fX11_joins_186 k176 n S10 a1 v11) else none)) else none) else glet (a2 + (1 : Int32)) fun v5 => (fX11_joins_186 k176 n S a1 v5)) else none))
set_option maxRecDepth 100000 in
set_option maxHeartbeats 4000000 in
theorem wX11_joins_186 {p : Program} {l : Launch} {e : Env} {s : State} {m : MethodId} {args : Array Value} {below : List Frame} {meth : Method} {c : Code} {E : GE} {res : (Unit × GS)} {k176 : GS → Int32 → Option (Unit × GS)} (hc : GM E p s m args meth c RX11 cX11_joins 5 none) (hk176 : ∀ (S : GS) (a1 : Int32) (H : Heap) (locs : List Loc) (ls : Array Slot), lv_has ls 5 [(0, gR E 54), (1, .int a1)] → GX E S H locs → k176 S a1 = some res → W p l e rmX11_joins s m args below meth c H locs 0 0 (gZ E below args s none res.2) (F0 m 176 ls [])) : ∀ (n : Nat), ∀ (S : GS) (a1 : Int32) (a2 : Int32) (H : Heap) (locs : List Loc) (ls : Array Slot), lv_has ls 5 [(0, gR E 54), (1, .int a1), (2, .int a2)] → GX E S H locs → fX11_joins_186 k176 n S a1 a2 = some res → W p l e rmX11_joins s m args below meth c H locs 0 0 (gZ E below args s none res.2) (F0 m 186 ls []) := by
  obtain ⟨hx, hb, -, -, -, hown, hts, -, -⟩ := id hc
  intro n
  induction n with
  | zero => intro S a1 a2 H locs ls hl hG h; cases h
  | succ n ih =>
    intro S a1 a2 H locs ls hl hG h
    rw [fX11_joins_186] at h
    refine lv_iload_n hx hb dX11_joins_186 rfl (lv_at hl 2 rfl) ?_
    refine lv_aload_n hx hb dX11_joins_187 rfl (lv_at hl 0 rfl) ?_
    refine g_getI hc hG 54 flX11_267 rfl rfl dX11_joins_188 ?_
    refine lv_icmp_ge (tgt := 251) hx hb dX11_joins_191 (by decide) (fun c1 => ?_) (fun c1 => ?_)
    · have h := g_pos c1 h
      obtain ⟨v2, ev2⟩ : ∃ y : Int32, y = (a1 + (1 : Int32)) := ⟨_, rfl⟩
      have h := g_let ev2 h
      refine lv_iinc (v := v2) (lv' := [(1, .int v2), (0, gR E 54), (2, .int a2)]) hx hb dX11_joins_251 hl (k := 1) rfl (by rw [ev2]; rfl) (by decide) rfl (fun ls hl => ?_)
      refine lv_goto (tgt := 176) hx hb dX11_joins_254 (by decide) ?_
      exact hk176 S v2 _ _ _ (lv_sub hl [1, 0] rfl) hG h
    · have h := g_neg c1 h
      refine lv_aload_n hx hb dX11_joins_194 rfl (lv_at hl 0 rfl) ?_
      refine g_getR hc hG 54 65 flX11_49 rfl rfl rfl dX11_joins_195 ?_
      refine lv_iload_n hx hb dX11_joins_198 rfl (lv_at hl 1 rfl) ?_
      obtain ⟨hi3, h⟩ := g_if h
      refine g_iald hc hG 65 12 (a1.toNatClampNeg) rfl rfl hi3 rfl dX11_joins_199 ?_
      refine lv_iload_n hx hb dX11_joins_200 rfl (lv_at hl 2 rfl) ?_
      refine lv_ishr hx hb dX11_joins_201 ?_
      refine lv_iconst (v := (1 : Int32)) hx hb dX11_joins_202 (by decide) ?_
      refine lv_iand hx hb dX11_joins_203 ?_
      refine lv_iconst (v := (1 : Int32)) hx hb dX11_joins_204 (by decide) ?_
      refine lv_icmp_ne (tgt := 245) hx hb dX11_joins_205 (by decide) (fun c4 => ?_) (fun c4 => ?_)
      · have h := g_neg c4 h
        obtain ⟨v5, ev5⟩ : ∃ y : Int32, y = (a2 + (1 : Int32)) := ⟨_, rfl⟩
        have h := g_let ev5 h
        refine lv_iinc (v := v5) (lv' := [(2, .int v5), (0, gR E 54), (1, .int a1)]) hx hb dX11_joins_245 hl (k := 2) rfl (by rw [ev5]; rfl) (by decide) rfl (fun ls hl => ?_)
        refine lv_goto (tgt := 186) hx hb dX11_joins_248 (by decide) ?_
        exact ih S a1 v5 _ _ _ (lv_sub hl [1, 2, 0] rfl) hG h
      · have h := g_pos c4 h
        refine lv_aload_n hx hb dX11_joins_208 rfl (lv_at hl 0 rfl) ?_
        refine g_getR hc hG 54 79 flX11_91 rfl rfl rfl dX11_joins_209 ?_
        refine lv_iload_n hx hb dX11_joins_212 rfl (lv_at hl 1 rfl) ?_
        refine g_iald hc hG 79 12 (a1.toNatClampNeg) rfl rfl hi3 rfl dX11_joins_213 ?_
        refine lv_aload_n hx hb dX11_joins_214 rfl (lv_at hl 0 rfl) ?_
        refine g_getR hc hG 54 79 flX11_91 rfl rfl rfl dX11_joins_215 ?_
        refine lv_iload_n hx hb dX11_joins_218 rfl (lv_at hl 2 rfl) ?_
        obtain ⟨hi6, h⟩ := g_if h
        refine g_iald hc hG 79 12 (a2.toNatClampNeg) rfl rfl hi6 rfl dX11_joins_219 ?_
        refine lv_icmp_eq (tgt := 245) hx hb dX11_joins_220 (by decide) (fun c7 => ?_) (fun c7 => ?_)
        · have h := g_pos c7 h
          obtain ⟨v8, ev8⟩ : ∃ y : Int32, y = (a2 + (1 : Int32)) := ⟨_, rfl⟩
          have h := g_let ev8 h
          refine lv_iinc (v := v8) (lv' := [(2, .int v8), (0, gR E 54), (1, .int a1)]) hx hb dX11_joins_245 hl (k := 2) rfl (by rw [ev8]; rfl) (by decide) rfl (fun ls hl => ?_)
          refine lv_goto (tgt := 186) hx hb dX11_joins_248 (by decide) ?_
          exact ih S a1 v8 _ _ _ (lv_sub hl [1, 2, 0] rfl) hG h
        · have h := g_neg c7 h
          refine lv_aload_n hx hb dX11_joins_223 rfl (lv_at hl 0 rfl) ?_
          refine g_getR hc hG 54 80 flX11_94 rfl rfl rfl dX11_joins_224 ?_
          refine lv_aload_n hx hb dX11_joins_227 rfl (lv_at hl 0 rfl) ?_
          refine g_getR hc hG 54 79 flX11_91 rfl rfl rfl dX11_joins_228 ?_
          refine lv_iload_n hx hb dX11_joins_231 rfl (lv_at hl 1 rfl) ?_
          refine g_iald hc hG 79 12 (a1.toNatClampNeg) rfl rfl hi3 rfl dX11_joins_232 ?_
          refine lv_dup2_11 hx hb dX11_joins_233 rfl rfl ?_
          obtain ⟨hi9, h⟩ := g_if h
          refine g_iald hc hG 80 12 (((S.1 79 a1.toNatClampNeg)).toNatClampNeg) rfl rfl hi9 rfl dX11_joins_234 ?_
          refine lv_iconst (v := (1 : Int32)) hx hb dX11_joins_235 (by decide) ?_
          refine lv_aload_n hx hb dX11_joins_236 rfl (lv_at hl 0 rfl) ?_
          refine g_getR hc hG 54 79 flX11_91 rfl rfl rfl dX11_joins_237 ?_
          refine lv_iload_n hx hb dX11_joins_240 rfl (lv_at hl 2 rfl) ?_
          refine g_iald hc hG 79 12 (a2.toNatClampNeg) rfl rfl hi6 rfl dX11_joins_241 ?_
          refine lv_ishl hx hb dX11_joins_242 ?_
          refine lv_ior hx hb dX11_joins_243 ?_
          refine g_iast hc hG 80 12 (((S.1 79 a1.toNatClampNeg)).toNatClampNeg) rfl rfl hi9 rfl dX11_joins_244 (fun S10 H locs eS10 hG => ?_)
          have h := g_let eS10 h
          obtain ⟨v11, ev11⟩ : ∃ y : Int32, y = (a2 + (1 : Int32)) := ⟨_, rfl⟩
          have h := g_let ev11 h
          refine lv_iinc (v := v11) (lv' := [(2, .int v11), (0, gR E 54), (1, .int a1)]) hx hb dX11_joins_245 hl (k := 2) rfl (by rw [ev11]; rfl) (by decide) rfl (fun ls hl => ?_)
          refine lv_goto (tgt := 186) hx hb dX11_joins_248 (by decide) ?_
          exact ih S10 a1 v11 _ _ _ (lv_sub hl [1, 2, 0] rfl) hG h
def fX11_joins_176 : Nat → GS → Int32 → Option (Unit × GS)
  | 0, _, _ => none
  | n + 1, S, a1 => (if (S.1 54 33) ≤ a1 then (some ((), S)) else glet (0 : Int32) fun v2 => (fX11_joins_186 (fX11_joins_176 n) FU S a1 v2))
set_option maxRecDepth 100000 in
set_option maxHeartbeats 4000000 in
theorem wX11_joins_176 {p : Program} {l : Launch} {e : Env} {s : State} {m : MethodId} {args : Array Value} {below : List Frame} {meth : Method} {c : Code} {E : GE} {res : (Unit × GS)} (hc : GM E p s m args meth c RX11 cX11_joins 5 none) : ∀ (n : Nat), ∀ (S : GS) (a1 : Int32) (H : Heap) (locs : List Loc) (ls : Array Slot), lv_has ls 5 [(0, gR E 54), (1, .int a1)] → GX E S H locs → fX11_joins_176 n S a1 = some res → W p l e rmX11_joins s m args below meth c H locs 0 0 (gZ E below args s none res.2) (F0 m 176 ls []) := by
  obtain ⟨hx, hb, -, -, -, hown, hts, -, -⟩ := id hc
  intro n
  induction n with
  | zero => intro S a1 H locs ls hl hG h; cases h
  | succ n ih =>
    intro S a1 H locs ls hl hG h
    rw [fX11_joins_176] at h
    refine lv_iload_n hx hb dX11_joins_176 rfl (lv_at hl 1 rfl) ?_
    refine lv_aload_n hx hb dX11_joins_177 rfl (lv_at hl 0 rfl) ?_
    refine g_getI hc hG 54 flX11_267 rfl rfl dX11_joins_178 ?_
    refine lv_icmp_ge (tgt := 257) hx hb dX11_joins_181 (by decide) (fun c1 => ?_) (fun c1 => ?_)
    · have h := g_pos c1 h
      exact g_vret hc hG dX11_joins_257 h
    · have h := g_neg c1 h
      refine lv_iconst (v := (0 : Int32)) hx hb dX11_joins_184 (by decide) ?_
      refine lv_topi (fun v2 ev2 => ?_)
      have h := g_let ev2 h
      refine lv_istore_n (lv' := [(2, .int v2), (0, gR E 54), (1, .int a1)]) hx hb dX11_joins_185 rfl hl (by decide) rfl (fun ls hl => ?_)
      exact wX11_joins_186 hc ih FU S a1 v2 _ _ _ (lv_sub hl [1, 2, 0] rfl) hG h
def fX11_joins_153 : Nat → GS → Int32 → Option (Unit × GS)
  | 0, _, _ => none
  | n + 1, S, a1 => (if (S.1 54 33) ≤ a1 then glet (0 : Int32) fun v2 => (fX11_joins_176 FU S v2) else (if gib a1 12 = true then glet (gsi S 80 (a1.toNatClampNeg) (0 : Int32)) fun S4 => glet (a1 + (1 : Int32)) fun v5 => (fX11_joins_153 n S4 v5) else none))
set_option maxRecDepth 100000 in
set_option maxHeartbeats 4000000 in
theorem wX11_joins_153 {p : Program} {l : Launch} {e : Env} {s : State} {m : MethodId} {args : Array Value} {below : List Frame} {meth : Method} {c : Code} {E : GE} {res : (Unit × GS)} (hc : GM E p s m args meth c RX11 cX11_joins 5 none) : ∀ (n : Nat), ∀ (S : GS) (a1 : Int32) (H : Heap) (locs : List Loc) (ls : Array Slot), lv_has ls 5 [(0, gR E 54), (1, .int a1)] → GX E S H locs → fX11_joins_153 n S a1 = some res → W p l e rmX11_joins s m args below meth c H locs 0 0 (gZ E below args s none res.2) (F0 m 153 ls []) := by
  obtain ⟨hx, hb, -, -, -, hown, hts, -, -⟩ := id hc
  intro n
  induction n with
  | zero => intro S a1 H locs ls hl hG h; cases h
  | succ n ih =>
    intro S a1 H locs ls hl hG h
    rw [fX11_joins_153] at h
    refine lv_iload_n hx hb dX11_joins_153 rfl (lv_at hl 1 rfl) ?_
    refine lv_aload_n hx hb dX11_joins_154 rfl (lv_at hl 0 rfl) ?_
    refine g_getI hc hG 54 flX11_267 rfl rfl dX11_joins_155 ?_
    refine lv_icmp_ge (tgt := 174) hx hb dX11_joins_158 (by decide) (fun c1 => ?_) (fun c1 => ?_)
    · have h := g_pos c1 h
      refine lv_iconst (v := (0 : Int32)) hx hb dX11_joins_174 (by decide) ?_
      refine lv_topi (fun v2 ev2 => ?_)
      have h := g_let ev2 h
      refine lv_istore_n (lv' := [(1, .int v2), (0, gR E 54)]) hx hb dX11_joins_175 rfl hl (by decide) rfl (fun ls hl => ?_)
      exact wX11_joins_176 hc FU S v2 _ _ _ (lv_sub hl [1, 0] rfl) hG h
    · have h := g_neg c1 h
      refine lv_aload_n hx hb dX11_joins_161 rfl (lv_at hl 0 rfl) ?_
      refine g_getR hc hG 54 80 flX11_94 rfl rfl rfl dX11_joins_162 ?_
      refine lv_iload_n hx hb dX11_joins_165 rfl (lv_at hl 1 rfl) ?_
      refine lv_iconst (v := (0 : Int32)) hx hb dX11_joins_166 (by decide) ?_
      obtain ⟨hi3, h⟩ := g_if h
      refine g_iast hc hG 80 12 (a1.toNatClampNeg) rfl rfl hi3 rfl dX11_joins_167 (fun S4 H locs eS4 hG => ?_)
      have h := g_let eS4 h
      obtain ⟨v5, ev5⟩ : ∃ y : Int32, y = (a1 + (1 : Int32)) := ⟨_, rfl⟩
      have h := g_let ev5 h
      refine lv_iinc (v := v5) (lv' := [(1, .int v5), (0, gR E 54)]) hx hb dX11_joins_168 hl (k := 1) rfl (by rw [ev5]; rfl) (by decide) rfl (fun ls hl => ?_)
      refine lv_goto (tgt := 153) hx hb dX11_joins_171 (by decide) ?_
      exact ih S4 v5 _ _ _ (lv_sub hl [1, 0] rfl) hG h
def fX11_joins_25 : Nat → GS → Int32 → Option (Unit × GS)
  | 0, _, _ => none
  | n + 1, S, a1 => (if (S.1 54 41) ≤ a1 then glet (0 : Int32) fun v2 => (fX11_joins_153 FU S v2) else (if gib a1 120 = true then (if (S.1 78 a1.toNatClampNeg) = 0 then glet (a1 + (1 : Int32)) fun v5 => (fX11_joins_25 n S v5) else (if (S.1 71 a1.toNatClampNeg) = (7 : Int32) then (if gib (S.1 73 a1.toNatClampNeg) 12 = true then (if gib (S.1 74 a1.toNatClampNeg) 12 = true then glet (if (S.1 79 ((S.1 74 a1.toNatClampNeg)).toNatClampNeg) < (S.1 79 ((S.1 73 a1.toNatClampNeg)).toNatClampNeg) then (S.1 79 ((S.1 74 a1.toNatClampNeg)).toNatClampNeg) else (S.1 79 ((S.1 73 a1.toNatClampNeg)).toNatClampNeg)) fun v9 => glet (if (S.1 79 ((S.1 73 a1.toNatClampNeg)).toNatClampNeg) < (S.1 79 ((S.1 74 a1.toNatClampNeg)).toNatClampNeg) then (S.1 79 ((S.1 74 a1.toNatClampNeg)).toNatClampNeg) else (S.1 79 ((S.1 73 a1.toNatClampNeg)).toNatClampNeg)) fun v10 => glet (0 : Int32) fun v11 => (fX11_joins_111 (fX11_joins_25 n) FU S a1 v9 v10 v11) else none) else none) else glet (a1 + (1 : Int32)) fun v12 => (fX11_joins_25 n S v12))) else none))
set_option maxRecDepth 100000 in
set_option maxHeartbeats 4000000 in
theorem wX11_joins_25 {p : Program} {l : Launch} {e : Env} {s : State} {m : MethodId} {args : Array Value} {below : List Frame} {meth : Method} {c : Code} {E : GE} {res : (Unit × GS)} (hc : GM E p s m args meth c RX11 cX11_joins 5 none) : ∀ (n : Nat), ∀ (S : GS) (a1 : Int32) (H : Heap) (locs : List Loc) (ls : Array Slot), lv_has ls 5 [(0, gR E 54), (1, .int a1)] → GX E S H locs → fX11_joins_25 n S a1 = some res → W p l e rmX11_joins s m args below meth c H locs 0 0 (gZ E below args s none res.2) (F0 m 25 ls []) := by
  obtain ⟨hx, hb, -, -, -, hown, hts, -, -⟩ := id hc
  intro n
  induction n with
  | zero => intro S a1 H locs ls hl hG h; cases h
  | succ n ih =>
    intro S a1 H locs ls hl hG h
    rw [fX11_joins_25] at h
    refine lv_iload_n hx hb dX11_joins_25 rfl (lv_at hl 1 rfl) ?_
    refine lv_aload_n hx hb dX11_joins_26 rfl (lv_at hl 0 rfl) ?_
    refine g_getI hc hG 54 flX11_282 rfl rfl dX11_joins_27 ?_
    refine lv_icmp_ge (tgt := 151) hx hb dX11_joins_30 (by decide) (fun c1 => ?_) (fun c1 => ?_)
    · have h := g_pos c1 h
      refine lv_iconst (v := (0 : Int32)) hx hb dX11_joins_151 (by decide) ?_
      refine lv_topi (fun v2 ev2 => ?_)
      have h := g_let ev2 h
      refine lv_istore_n (lv' := [(1, .int v2), (0, gR E 54)]) hx hb dX11_joins_152 rfl hl (by decide) rfl (fun ls hl => ?_)
      exact wX11_joins_153 hc FU S v2 _ _ _ (lv_sub hl [1, 0] rfl) hG h
    · have h := g_neg c1 h
      refine lv_aload_n hx hb dX11_joins_33 rfl (lv_at hl 0 rfl) ?_
      refine g_getR hc hG 54 78 flX11_88 rfl rfl rfl dX11_joins_34 ?_
      refine lv_iload_n hx hb dX11_joins_37 rfl (lv_at hl 1 rfl) ?_
      obtain ⟨hi3, h⟩ := g_if h
      refine g_zald hc hG 78 120 (a1.toNatClampNeg) rfl rfl hi3 rfl dX11_joins_38 ?_
      refine lv_if_eq (tgt := 145) hx hb dX11_joins_39 (by decide) (fun c4 => ?_) (fun c4 => ?_)
      · have h := g_pos c4 h
        obtain ⟨v5, ev5⟩ : ∃ y : Int32, y = (a1 + (1 : Int32)) := ⟨_, rfl⟩
        have h := g_let ev5 h
        refine lv_iinc (v := v5) (lv' := [(1, .int v5), (0, gR E 54)]) hx hb dX11_joins_145 hl (k := 1) rfl (by rw [ev5]; rfl) (by decide) rfl (fun ls hl => ?_)
        refine lv_goto (tgt := 25) hx hb dX11_joins_148 (by decide) ?_
        exact ih S v5 _ _ _ (lv_sub hl [1, 0] rfl) hG h
      · have h := g_neg c4 h
        refine lv_aload_n hx hb dX11_joins_42 rfl (lv_at hl 0 rfl) ?_
        refine g_getR hc hG 54 71 flX11_67 rfl rfl rfl dX11_joins_43 ?_
        refine lv_iload_n hx hb dX11_joins_46 rfl (lv_at hl 1 rfl) ?_
        refine g_iald hc hG 71 120 (a1.toNatClampNeg) rfl rfl hi3 rfl dX11_joins_47 ?_
        refine lv_bipush (v := (7 : Int32)) hx hb dX11_joins_48 (by decide) ?_
        refine lv_icmp_eq (tgt := 56) hx hb dX11_joins_50 (by decide) (fun c6 => ?_) (fun c6 => ?_)
        · have h := g_pos c6 h
          refine lv_aload_n hx hb dX11_joins_56 rfl (lv_at hl 0 rfl) ?_
          refine g_getR hc hG 54 79 flX11_91 rfl rfl rfl dX11_joins_57 ?_
          refine lv_aload_n hx hb dX11_joins_60 rfl (lv_at hl 0 rfl) ?_
          refine g_getR hc hG 54 73 flX11_73 rfl rfl rfl dX11_joins_61 ?_
          refine lv_iload_n hx hb dX11_joins_64 rfl (lv_at hl 1 rfl) ?_
          refine g_iald hc hG 73 120 (a1.toNatClampNeg) rfl rfl hi3 rfl dX11_joins_65 ?_
          obtain ⟨hi7, h⟩ := g_if h
          refine g_iald hc hG 79 12 (((S.1 73 a1.toNatClampNeg)).toNatClampNeg) rfl rfl hi7 rfl dX11_joins_66 ?_
          refine lv_aload_n hx hb dX11_joins_67 rfl (lv_at hl 0 rfl) ?_
          refine g_getR hc hG 54 79 flX11_91 rfl rfl rfl dX11_joins_68 ?_
          refine lv_aload_n hx hb dX11_joins_71 rfl (lv_at hl 0 rfl) ?_
          refine g_getR hc hG 54 74 flX11_76 rfl rfl rfl dX11_joins_72 ?_
          refine lv_iload_n hx hb dX11_joins_75 rfl (lv_at hl 1 rfl) ?_
          refine g_iald hc hG 74 120 (a1.toNatClampNeg) rfl rfl hi3 rfl dX11_joins_76 ?_
          obtain ⟨hi8, h⟩ := g_if h
          refine g_iald hc hG 79 12 (((S.1 74 a1.toNatClampNeg)).toNatClampNeg) rfl rfl hi8 rfl dX11_joins_77 ?_
          refine g_mmin hc hl.1 (mlX11_308) (by decide) (Nat.le_of_ble_eq_true rfl) ⟨by decide, by decide⟩ dX11_joins_78 ?_
          refine lv_topi (fun v9 ev9 => ?_)
          have h := g_let ev9 h
          refine lv_istore_n (lv' := [(2, .int v9), (0, gR E 54), (1, .int a1)]) hx hb dX11_joins_81 rfl hl (by decide) rfl (fun ls hl => ?_)
          refine lv_aload_n hx hb dX11_joins_82 rfl (lv_at hl 1 rfl) ?_
          refine g_getR hc hG 54 79 flX11_91 rfl rfl rfl dX11_joins_83 ?_
          refine lv_aload_n hx hb dX11_joins_86 rfl (lv_at hl 1 rfl) ?_
          refine g_getR hc hG 54 73 flX11_73 rfl rfl rfl dX11_joins_87 ?_
          refine lv_iload_n hx hb dX11_joins_90 rfl (lv_at hl 2 rfl) ?_
          refine g_iald hc hG 73 120 (a1.toNatClampNeg) rfl rfl hi3 rfl dX11_joins_91 ?_
          refine g_iald hc hG 79 12 (((S.1 73 a1.toNatClampNeg)).toNatClampNeg) rfl rfl hi7 rfl dX11_joins_92 ?_
          refine lv_aload_n hx hb dX11_joins_93 rfl (lv_at hl 1 rfl) ?_
          refine g_getR hc hG 54 79 flX11_91 rfl rfl rfl dX11_joins_94 ?_
          refine lv_aload_n hx hb dX11_joins_97 rfl (lv_at hl 1 rfl) ?_
          refine g_getR hc hG 54 74 flX11_76 rfl rfl rfl dX11_joins_98 ?_
          refine lv_iload_n hx hb dX11_joins_101 rfl (lv_at hl 2 rfl) ?_
          refine g_iald hc hG 74 120 (a1.toNatClampNeg) rfl rfl hi3 rfl dX11_joins_102 ?_
          refine g_iald hc hG 79 12 (((S.1 74 a1.toNatClampNeg)).toNatClampNeg) rfl rfl hi8 rfl dX11_joins_103 ?_
          refine g_mmax hc hl.1 (mlX11_312) (by decide) (Nat.le_of_ble_eq_true rfl) ⟨by decide, by decide⟩ dX11_joins_104 ?_
          refine lv_topi (fun v10 ev10 => ?_)
          have h := g_let ev10 h
          refine lv_istore_n (lv' := [(3, .int v10), (2, .int v9), (0, gR E 54), (1, .int a1)]) hx hb dX11_joins_107 rfl hl (by decide) rfl (fun ls hl => ?_)
          refine lv_iconst (v := (0 : Int32)) hx hb dX11_joins_108 (by decide) ?_
          refine lv_topi (fun v11 ev11 => ?_)
          have h := g_let ev11 h
          refine lv_istore (lv' := [(4, .int v11), (3, .int v10), (2, .int v9), (0, gR E 54), (1, .int a1)]) hx hb dX11_joins_109 hl (by decide) rfl (fun ls hl => ?_)
          exact wX11_joins_111 hc ih FU S a1 v9 v10 v11 _ _ _ (lv_sub hl [3, 4, 2, 1, 0] rfl) hG h
        · have h := g_neg c6 h
          refine lv_goto (tgt := 145) hx hb dX11_joins_53 (by decide) ?_
          obtain ⟨v12, ev12⟩ : ∃ y : Int32, y = (a1 + (1 : Int32)) := ⟨_, rfl⟩
          have h := g_let ev12 h
          refine lv_iinc (v := v12) (lv' := [(1, .int v12), (0, gR E 54)]) hx hb dX11_joins_145 hl (k := 1) rfl (by rw [ev12]; rfl) (by decide) rfl (fun ls hl => ?_)
          refine lv_goto (tgt := 25) hx hb dX11_joins_148 (by decide) ?_
          exact ih S v12 _ _ _ (lv_sub hl [1, 0] rfl) hG h
def fX11_joins_2 : Nat → GS → Int32 → Option (Unit × GS)
  | 0, _, _ => none
  | n + 1, S, a1 => (if (S.1 54 33) ≤ a1 then glet (0 : Int32) fun v2 => (fX11_joins_25 FU S v2) else (if gib a1 12 = true then glet (gsi S 79 (a1.toNatClampNeg) a1) fun S4 => glet (a1 + (1 : Int32)) fun v5 => (fX11_joins_2 n S4 v5) else none))
set_option maxRecDepth 100000 in
set_option maxHeartbeats 4000000 in
theorem wX11_joins_2 {p : Program} {l : Launch} {e : Env} {s : State} {m : MethodId} {args : Array Value} {below : List Frame} {meth : Method} {c : Code} {E : GE} {res : (Unit × GS)} (hc : GM E p s m args meth c RX11 cX11_joins 5 none) : ∀ (n : Nat), ∀ (S : GS) (a1 : Int32) (H : Heap) (locs : List Loc) (ls : Array Slot), lv_has ls 5 [(0, gR E 54), (1, .int a1)] → GX E S H locs → fX11_joins_2 n S a1 = some res → W p l e rmX11_joins s m args below meth c H locs 0 0 (gZ E below args s none res.2) (F0 m 2 ls []) := by
  obtain ⟨hx, hb, -, -, -, hown, hts, -, -⟩ := id hc
  intro n
  induction n with
  | zero => intro S a1 H locs ls hl hG h; cases h
  | succ n ih =>
    intro S a1 H locs ls hl hG h
    rw [fX11_joins_2] at h
    refine lv_iload_n hx hb dX11_joins_2 rfl (lv_at hl 1 rfl) ?_
    refine lv_aload_n hx hb dX11_joins_3 rfl (lv_at hl 0 rfl) ?_
    refine g_getI hc hG 54 flX11_267 rfl rfl dX11_joins_4 ?_
    refine lv_icmp_ge (tgt := 23) hx hb dX11_joins_7 (by decide) (fun c1 => ?_) (fun c1 => ?_)
    · have h := g_pos c1 h
      refine lv_iconst (v := (0 : Int32)) hx hb dX11_joins_23 (by decide) ?_
      refine lv_topi (fun v2 ev2 => ?_)
      have h := g_let ev2 h
      refine lv_istore_n (lv' := [(1, .int v2), (0, gR E 54)]) hx hb dX11_joins_24 rfl hl (by decide) rfl (fun ls hl => ?_)
      exact wX11_joins_25 hc FU S v2 _ _ _ (lv_sub hl [1, 0] rfl) hG h
    · have h := g_neg c1 h
      refine lv_aload_n hx hb dX11_joins_10 rfl (lv_at hl 0 rfl) ?_
      refine g_getR hc hG 54 79 flX11_91 rfl rfl rfl dX11_joins_11 ?_
      refine lv_iload_n hx hb dX11_joins_14 rfl (lv_at hl 1 rfl) ?_
      refine lv_iload_n hx hb dX11_joins_15 rfl (lv_at hl 1 rfl) ?_
      obtain ⟨hi3, h⟩ := g_if h
      refine g_iast hc hG 79 12 (a1.toNatClampNeg) rfl rfl hi3 rfl dX11_joins_16 (fun S4 H locs eS4 hG => ?_)
      have h := g_let eS4 h
      obtain ⟨v5, ev5⟩ : ∃ y : Int32, y = (a1 + (1 : Int32)) := ⟨_, rfl⟩
      have h := g_let ev5 h
      refine lv_iinc (v := v5) (lv' := [(1, .int v5), (0, gR E 54)]) hx hb dX11_joins_17 hl (k := 1) rfl (by rw [ev5]; rfl) (by decide) rfl (fun ls hl => ?_)
      refine lv_goto (tgt := 2) hx hb dX11_joins_20 (by decide) ?_
      exact ih S4 v5 _ _ _ (lv_sub hl [1, 0] rfl) hG h
def fX11_joins (S : GS) : Option (Unit × GS) := glet (0 : Int32) fun v1 => (fX11_joins_2 FU S v1)
set_option maxRecDepth 100000 in
set_option maxHeartbeats 4000000 in
theorem wX11_joins_0 {p : Program} {l : Launch} {e : Env} {s : State} {m : MethodId} {args : Array Value} {below : List Frame} {meth : Method} {c : Code} {E : GE} {res : (Unit × GS)} (hc : GM E p s m args meth c RX11 cX11_joins 5 none) : ∀ (S : GS) (H : Heap) (locs : List Loc) (ls : Array Slot), lv_has ls 5 [(0, gR E 54)] → GX E S H locs → fX11_joins S = some res → W p l e rmX11_joins s m args below meth c H locs 0 0 (gZ E below args s none res.2) (F0 m 0 ls []) := by
  obtain ⟨hx, hb, -, -, -, hown, hts, -, -⟩ := id hc
  intro S H locs ls hl hG h
  unfold fX11_joins at h
  refine lv_iconst (v := (0 : Int32)) hx hb dX11_joins_0 (by decide) ?_
  refine lv_topi (fun v1 ev1 => ?_)
  have h := g_let ev1 h
  refine lv_istore_n (lv' := [(1, .int v1), (0, gR E 54)]) hx hb dX11_joins_1 rfl hl (by decide) rfl (fun ls hl => ?_)
  exact wX11_joins_2 hc FU S v1 _ _ _ (lv_sub hl [1, 0] rfl) hG h
theorem mX11_joins (l : Launch) (E : GE) {S : GS} {res : (Unit × GS)} (h : fX11_joins S = some res) : gMet l E yX11_joins cX11_joins 5 none rmX11_joins [gR E 54] S none res.2 :=
  g_met (by decide) (Nat.le_of_ble_eq_true rfl) rfl fun p e s m below meth c H ls hc hG hl => wX11_joins_0 hc S H [] ls hl hG h
abbrev rmX11_undoes : Room := { frames := 0, cells := 0, slots := 0, locals := 0 }
def fX11_undoes_25 (k4 : GS → Int32 → Int32 → Option (Unit × GS)) : Nat → GS → Int32 → Int32 → Int32 → Int32 → Option (Unit × GS)
  | 0, _, _, _, _, _ => none
  | n + 1, S, a1, a2, a3, a4 => (if (S.1 54 41) ≤ a4 then glet (a2 + (-1 : Int32)) fun v2 => (k4 S a1 v2) else (if gib a4 120 = true then (if (S.1 78 a4.toNatClampNeg) = 0 then glet (a4 + (1 : Int32)) fun v5 => (fX11_undoes_25 k4 n S a1 a2 a3 v5) else (if (S.1 71 a4.toNatClampNeg) = (4 : Int32) then (if (S.1 74 a4.toNatClampNeg) = a3 then (if gib (S.1 73 a4.toNatClampNeg) 32 = true then (if a1 ≤ (S.1 82 ((S.1 73 a4.toNatClampNeg)).toNatClampNeg) then glet (a4 + (1 : Int32)) fun v12 => (fX11_undoes_25 k4 n S a1 a2 a3 v12) else (if (S.1 85 ((S.1 73 a4.toNatClampNeg)).toNatClampNeg) = 0 then (if gib a3 32 = true then glet (gsi S 85 (a3.toNatClampNeg) (vp_nar .boolean (1 : Int32))) fun S16 => glet (a4 + (1 : Int32)) fun v17 => (fX11_undoes_25 k4 n S16 a1 a2 a3 v17) else none) else glet (a4 + (1 : Int32)) fun v14 => (fX11_undoes_25 k4 n S a1 a2 a3 v14))) else none) else glet (a4 + (1 : Int32)) fun v9 => (fX11_undoes_25 k4 n S a1 a2 a3 v9)) else glet (a4 + (1 : Int32)) fun v7 => (fX11_undoes_25 k4 n S a1 a2 a3 v7))) else none))
set_option maxRecDepth 100000 in
set_option maxHeartbeats 4000000 in
theorem wX11_undoes_25 {p : Program} {l : Launch} {e : Env} {s : State} {m : MethodId} {args : Array Value} {below : List Frame} {meth : Method} {c : Code} {E : GE} {res : (Unit × GS)} {k4 : GS → Int32 → Int32 → Option (Unit × GS)} (hc : GM E p s m args meth c RX11 cX11_undoes 5 none) (hk4 : ∀ (S : GS) (a1 : Int32) (a2 : Int32) (H : Heap) (locs : List Loc) (ls : Array Slot), lv_has ls 5 [(0, gR E 54), (1, .int a1), (2, .int a2)] → GX E S H locs → k4 S a1 a2 = some res → W p l e rmX11_undoes s m args below meth c H locs 0 0 (gZ E below args s none res.2) (F0 m 4 ls [])) : ∀ (n : Nat), ∀ (S : GS) (a1 : Int32) (a2 : Int32) (a3 : Int32) (a4 : Int32) (H : Heap) (locs : List Loc) (ls : Array Slot), lv_has ls 5 [(0, gR E 54), (1, .int a1), (2, .int a2), (3, .int a3), (4, .int a4)] → GX E S H locs → fX11_undoes_25 k4 n S a1 a2 a3 a4 = some res → W p l e rmX11_undoes s m args below meth c H locs 0 0 (gZ E below args s none res.2) (F0 m 25 ls []) := by
  obtain ⟨hx, hb, -, -, -, hown, hts, -, -⟩ := id hc
  intro n
  induction n with
  | zero => intro S a1 a2 a3 a4 H locs ls hl hG h; cases h
  | succ n ih =>
    intro S a1 a2 a3 a4 H locs ls hl hG h
    rw [fX11_undoes_25] at h
    refine lv_iload hx hb dX11_undoes_25 (lv_at hl 4 rfl) ?_
    refine lv_aload_n hx hb dX11_undoes_27 rfl (lv_at hl 0 rfl) ?_
    refine g_getI hc hG 54 flX11_282 rfl rfl dX11_undoes_28 ?_
    refine lv_icmp_ge (tgt := 110) hx hb dX11_undoes_31 (by decide) (fun c1 => ?_) (fun c1 => ?_)
    · have h := g_pos c1 h
      obtain ⟨v2, ev2⟩ : ∃ y : Int32, y = (a2 + (-1 : Int32)) := ⟨_, rfl⟩
      have h := g_let ev2 h
      refine lv_iinc (v := v2) (lv' := [(2, .int v2), (0, gR E 54), (1, .int a1), (3, .int a3), (4, .int a4)]) hx hb dX11_undoes_110 hl (k := 2) rfl (by rw [ev2]; rfl) (by decide) rfl (fun ls hl => ?_)
      refine lv_goto (tgt := 4) hx hb dX11_undoes_113 (by decide) ?_
      exact hk4 S a1 v2 _ _ _ (lv_sub hl [1, 2, 0] rfl) hG h
    · have h := g_neg c1 h
      refine lv_aload_n hx hb dX11_undoes_34 rfl (lv_at hl 0 rfl) ?_
      refine g_getR hc hG 54 78 flX11_88 rfl rfl rfl dX11_undoes_35 ?_
      refine lv_iload hx hb dX11_undoes_38 (lv_at hl 4 rfl) ?_
      obtain ⟨hi3, h⟩ := g_if h
      refine g_zald hc hG 78 120 (a4.toNatClampNeg) rfl rfl hi3 rfl dX11_undoes_40 ?_
      refine lv_if_eq (tgt := 104) hx hb dX11_undoes_41 (by decide) (fun c4 => ?_) (fun c4 => ?_)
      · have h := g_pos c4 h
        obtain ⟨v5, ev5⟩ : ∃ y : Int32, y = (a4 + (1 : Int32)) := ⟨_, rfl⟩
        have h := g_let ev5 h
        refine lv_iinc (v := v5) (lv' := [(4, .int v5), (0, gR E 54), (1, .int a1), (2, .int a2), (3, .int a3)]) hx hb dX11_undoes_104 hl (k := 4) rfl (by rw [ev5]; rfl) (by decide) rfl (fun ls hl => ?_)
        refine lv_goto (tgt := 25) hx hb dX11_undoes_107 (by decide) ?_
        exact ih S a1 a2 a3 v5 _ _ _ (lv_sub hl [1, 2, 3, 4, 0] rfl) hG h
      · have h := g_neg c4 h
        refine lv_aload_n hx hb dX11_undoes_44 rfl (lv_at hl 0 rfl) ?_
        refine g_getR hc hG 54 71 flX11_67 rfl rfl rfl dX11_undoes_45 ?_
        refine lv_iload hx hb dX11_undoes_48 (lv_at hl 4 rfl) ?_
        refine g_iald hc hG 71 120 (a4.toNatClampNeg) rfl rfl hi3 rfl dX11_undoes_50 ?_
        refine lv_iconst (v := (4 : Int32)) hx hb dX11_undoes_51 (by decide) ?_
        refine lv_icmp_ne (tgt := 104) hx hb dX11_undoes_52 (by decide) (fun c6 => ?_) (fun c6 => ?_)
        · have h := g_neg c6 h
          obtain ⟨v7, ev7⟩ : ∃ y : Int32, y = (a4 + (1 : Int32)) := ⟨_, rfl⟩
          have h := g_let ev7 h
          refine lv_iinc (v := v7) (lv' := [(4, .int v7), (0, gR E 54), (1, .int a1), (2, .int a2), (3, .int a3)]) hx hb dX11_undoes_104 hl (k := 4) rfl (by rw [ev7]; rfl) (by decide) rfl (fun ls hl => ?_)
          refine lv_goto (tgt := 25) hx hb dX11_undoes_107 (by decide) ?_
          exact ih S a1 a2 a3 v7 _ _ _ (lv_sub hl [1, 2, 3, 4, 0] rfl) hG h
        · have h := g_pos c6 h
          refine lv_aload_n hx hb dX11_undoes_55 rfl (lv_at hl 0 rfl) ?_
          refine g_getR hc hG 54 74 flX11_76 rfl rfl rfl dX11_undoes_56 ?_
          refine lv_iload hx hb dX11_undoes_59 (lv_at hl 4 rfl) ?_
          refine g_iald hc hG 74 120 (a4.toNatClampNeg) rfl rfl hi3 rfl dX11_undoes_61 ?_
          refine lv_iload_n hx hb dX11_undoes_62 rfl (lv_at hl 3 rfl) ?_
          refine lv_icmp_ne (tgt := 104) hx hb dX11_undoes_63 (by decide) (fun c8 => ?_) (fun c8 => ?_)
          · have h := g_neg c8 h
            obtain ⟨v9, ev9⟩ : ∃ y : Int32, y = (a4 + (1 : Int32)) := ⟨_, rfl⟩
            have h := g_let ev9 h
            refine lv_iinc (v := v9) (lv' := [(4, .int v9), (0, gR E 54), (1, .int a1), (2, .int a2), (3, .int a3)]) hx hb dX11_undoes_104 hl (k := 4) rfl (by rw [ev9]; rfl) (by decide) rfl (fun ls hl => ?_)
            refine lv_goto (tgt := 25) hx hb dX11_undoes_107 (by decide) ?_
            exact ih S a1 a2 a3 v9 _ _ _ (lv_sub hl [1, 2, 3, 4, 0] rfl) hG h
          · have h := g_pos c8 h
            refine lv_aload_n hx hb dX11_undoes_66 rfl (lv_at hl 0 rfl) ?_
            refine g_getR hc hG 54 82 flX11_100 rfl rfl rfl dX11_undoes_67 ?_
            refine lv_aload_n hx hb dX11_undoes_70 rfl (lv_at hl 0 rfl) ?_
            refine g_getR hc hG 54 73 flX11_73 rfl rfl rfl dX11_undoes_71 ?_
            refine lv_iload hx hb dX11_undoes_74 (lv_at hl 4 rfl) ?_
            refine g_iald hc hG 73 120 (a4.toNatClampNeg) rfl rfl hi3 rfl dX11_undoes_76 ?_
            obtain ⟨hi10, h⟩ := g_if h
            refine g_iald hc hG 82 32 (((S.1 73 a4.toNatClampNeg)).toNatClampNeg) rfl rfl hi10 rfl dX11_undoes_77 ?_
            refine lv_iload_n hx hb dX11_undoes_78 rfl (lv_at hl 1 rfl) ?_
            refine lv_icmp_ge (tgt := 104) hx hb dX11_undoes_79 (by decide) (fun c11 => ?_) (fun c11 => ?_)
            · have h := g_pos c11 h
              obtain ⟨v12, ev12⟩ : ∃ y : Int32, y = (a4 + (1 : Int32)) := ⟨_, rfl⟩
              have h := g_let ev12 h
              refine lv_iinc (v := v12) (lv' := [(4, .int v12), (0, gR E 54), (1, .int a1), (2, .int a2), (3, .int a3)]) hx hb dX11_undoes_104 hl (k := 4) rfl (by rw [ev12]; rfl) (by decide) rfl (fun ls hl => ?_)
              refine lv_goto (tgt := 25) hx hb dX11_undoes_107 (by decide) ?_
              exact ih S a1 a2 a3 v12 _ _ _ (lv_sub hl [1, 2, 3, 4, 0] rfl) hG h
            · have h := g_neg c11 h
              refine lv_aload_n hx hb dX11_undoes_82 rfl (lv_at hl 0 rfl) ?_
              refine g_getR hc hG 54 85 flX11_109 rfl rfl rfl dX11_undoes_83 ?_
              refine lv_aload_n hx hb dX11_undoes_86 rfl (lv_at hl 0 rfl) ?_
              refine g_getR hc hG 54 73 flX11_73 rfl rfl rfl dX11_undoes_87 ?_
              refine lv_iload hx hb dX11_undoes_90 (lv_at hl 4 rfl) ?_
              refine g_iald hc hG 73 120 (a4.toNatClampNeg) rfl rfl hi3 rfl dX11_undoes_92 ?_
              refine g_zald hc hG 85 32 (((S.1 73 a4.toNatClampNeg)).toNatClampNeg) rfl rfl hi10 rfl dX11_undoes_93 ?_
              refine lv_if_ne (tgt := 104) hx hb dX11_undoes_94 (by decide) (fun c13 => ?_) (fun c13 => ?_)
              · have h := g_neg c13 h
                obtain ⟨v14, ev14⟩ : ∃ y : Int32, y = (a4 + (1 : Int32)) := ⟨_, rfl⟩
                have h := g_let ev14 h
                refine lv_iinc (v := v14) (lv' := [(4, .int v14), (0, gR E 54), (1, .int a1), (2, .int a2), (3, .int a3)]) hx hb dX11_undoes_104 hl (k := 4) rfl (by rw [ev14]; rfl) (by decide) rfl (fun ls hl => ?_)
                refine lv_goto (tgt := 25) hx hb dX11_undoes_107 (by decide) ?_
                exact ih S a1 a2 a3 v14 _ _ _ (lv_sub hl [1, 2, 3, 4, 0] rfl) hG h
              · have h := g_pos c13 h
                refine lv_aload_n hx hb dX11_undoes_97 rfl (lv_at hl 0 rfl) ?_
                refine g_getR hc hG 54 85 flX11_109 rfl rfl rfl dX11_undoes_98 ?_
                refine lv_iload_n hx hb dX11_undoes_101 rfl (lv_at hl 3 rfl) ?_
                refine lv_iconst (v := (1 : Int32)) hx hb dX11_undoes_102 (by decide) ?_
                obtain ⟨hi15, h⟩ := g_if h
                refine g_zast hc hG 85 32 (a3.toNatClampNeg) rfl rfl hi15 rfl dX11_undoes_103 (fun S16 H locs eS16 hG => ?_)
                have h := g_let eS16 h
                obtain ⟨v17, ev17⟩ : ∃ y : Int32, y = (a4 + (1 : Int32)) := ⟨_, rfl⟩
                have h := g_let ev17 h
                refine lv_iinc (v := v17) (lv' := [(4, .int v17), (0, gR E 54), (1, .int a1), (2, .int a2), (3, .int a3)]) hx hb dX11_undoes_104 hl (k := 4) rfl (by rw [ev17]; rfl) (by decide) rfl (fun ls hl => ?_)
                refine lv_goto (tgt := 25) hx hb dX11_undoes_107 (by decide) ?_
                exact ih S16 a1 a2 a3 v17 _ _ _ (lv_sub hl [1, 2, 3, 4, 0] rfl) hG h
def fX11_undoes_4 : Nat → GS → Int32 → Int32 → Option (Unit × GS)
  | 0, _, _, _ => none
  | n + 1, S, a1, a2 => (if a2 < 0 then (some ((), S)) else (if gib a2 32 = true then glet (S.1 81 a2.toNatClampNeg) fun v3 => (if gib v3 32 = true then glet (gsi S 85 (v3.toNatClampNeg) (vp_nar .boolean (0 : Int32))) fun S5 => glet (0 : Int32) fun v6 => (fX11_undoes_25 (fX11_undoes_4 n) FU S5 a1 a2 v3 v6) else none) else none))
set_option maxRecDepth 100000 in
set_option maxHeartbeats 4000000 in
theorem wX11_undoes_4 {p : Program} {l : Launch} {e : Env} {s : State} {m : MethodId} {args : Array Value} {below : List Frame} {meth : Method} {c : Code} {E : GE} {res : (Unit × GS)} (hc : GM E p s m args meth c RX11 cX11_undoes 5 none) : ∀ (n : Nat), ∀ (S : GS) (a1 : Int32) (a2 : Int32) (H : Heap) (locs : List Loc) (ls : Array Slot), lv_has ls 5 [(0, gR E 54), (1, .int a1), (2, .int a2)] → GX E S H locs → fX11_undoes_4 n S a1 a2 = some res → W p l e rmX11_undoes s m args below meth c H locs 0 0 (gZ E below args s none res.2) (F0 m 4 ls []) := by
  obtain ⟨hx, hb, -, -, -, hown, hts, -, -⟩ := id hc
  intro n
  induction n with
  | zero => intro S a1 a2 H locs ls hl hG h; cases h
  | succ n ih =>
    intro S a1 a2 H locs ls hl hG h
    rw [fX11_undoes_4] at h
    refine lv_iload_n hx hb dX11_undoes_4 rfl (lv_at hl 2 rfl) ?_
    refine lv_if_lt (tgt := 116) hx hb dX11_undoes_5 (by decide) (fun c1 => ?_) (fun c1 => ?_)
    · have h := g_pos c1 h
      exact g_vret hc hG dX11_undoes_116 h
    · have h := g_neg c1 h
      refine lv_aload_n hx hb dX11_undoes_8 rfl (lv_at hl 0 rfl) ?_
      refine g_getR hc hG 54 81 flX11_97 rfl rfl rfl dX11_undoes_9 ?_
      refine lv_iload_n hx hb dX11_undoes_12 rfl (lv_at hl 2 rfl) ?_
      obtain ⟨hi2, h⟩ := g_if h
      refine g_iald hc hG 81 32 (a2.toNatClampNeg) rfl rfl hi2 rfl dX11_undoes_13 ?_
      refine lv_topi (fun v3 ev3 => ?_)
      have h := g_let ev3 h
      refine lv_istore_n (lv' := [(3, .int v3), (0, gR E 54), (1, .int a1), (2, .int a2)]) hx hb dX11_undoes_14 rfl hl (by decide) rfl (fun ls hl => ?_)
      refine lv_aload_n hx hb dX11_undoes_15 rfl (lv_at hl 1 rfl) ?_
      refine g_getR hc hG 54 85 flX11_109 rfl rfl rfl dX11_undoes_16 ?_
      refine lv_iload_n hx hb dX11_undoes_19 rfl (lv_at hl 0 rfl) ?_
      refine lv_iconst (v := (0 : Int32)) hx hb dX11_undoes_20 (by decide) ?_
      obtain ⟨hi4, h⟩ := g_if h
      refine g_zast hc hG 85 32 (v3.toNatClampNeg) rfl rfl hi4 rfl dX11_undoes_21 (fun S5 H locs eS5 hG => ?_)
      have h := g_let eS5 h
      refine lv_iconst (v := (0 : Int32)) hx hb dX11_undoes_22 (by decide) ?_
      refine lv_topi (fun v6 ev6 => ?_)
      have h := g_let ev6 h
      refine lv_istore (lv' := [(4, .int v6), (3, .int v3), (0, gR E 54), (1, .int a1), (2, .int a2)]) hx hb dX11_undoes_23 hl (by decide) rfl (fun ls hl => ?_)
      exact wX11_undoes_25 hc ih FU S5 a1 a2 v3 v6 _ _ _ (lv_sub hl [2, 3, 4, 1, 0] rfl) hG h
def fX11_undoes (S : GS) (a1 : Int32) : Option (Unit × GS) := glet (a1 - (1 : Int32)) fun v1 => (fX11_undoes_4 FU S a1 v1)
set_option maxRecDepth 100000 in
set_option maxHeartbeats 4000000 in
theorem wX11_undoes_0 {p : Program} {l : Launch} {e : Env} {s : State} {m : MethodId} {args : Array Value} {below : List Frame} {meth : Method} {c : Code} {E : GE} {res : (Unit × GS)} (hc : GM E p s m args meth c RX11 cX11_undoes 5 none) : ∀ (S : GS) (a1 : Int32) (H : Heap) (locs : List Loc) (ls : Array Slot), lv_has ls 5 [(0, gR E 54), (1, .int a1)] → GX E S H locs → fX11_undoes S a1 = some res → W p l e rmX11_undoes s m args below meth c H locs 0 0 (gZ E below args s none res.2) (F0 m 0 ls []) := by
  obtain ⟨hx, hb, -, -, -, hown, hts, -, -⟩ := id hc
  intro S a1 H locs ls hl hG h
  unfold fX11_undoes at h
  refine lv_iload_n hx hb dX11_undoes_0 rfl (lv_at hl 1 rfl) ?_
  refine lv_iconst (v := (1 : Int32)) hx hb dX11_undoes_1 (by decide) ?_
  refine lv_isub hx hb dX11_undoes_2 ?_
  refine lv_topi (fun v1 ev1 => ?_)
  have h := g_let ev1 h
  refine lv_istore_n (lv' := [(2, .int v1), (0, gR E 54), (1, .int a1)]) hx hb dX11_undoes_3 rfl hl (by decide) rfl (fun ls hl => ?_)
  exact wX11_undoes_4 hc FU S a1 v1 _ _ _ (lv_sub hl [1, 2, 0] rfl) hG h
theorem mX11_undoes (l : Launch) (E : GE) {S : GS} {a1 : Int32} {res : (Unit × GS)} (h : fX11_undoes S a1 = some res) : gMet l E yX11_undoes cX11_undoes 5 none rmX11_undoes [gR E 54, .int a1] S none res.2 :=
  g_met (by decide) (Nat.le_of_ble_eq_true rfl) rfl fun p e s m below meth c H ls hc hG hl => wX11_undoes_0 hc S a1 H [] ls hl hG h
abbrev rmX11_bits : Room := { frames := 0, cells := 0, slots := 0, locals := 0 }
def fX11_bits_4 : Nat → GS → Int32 → Int32 → Int32 → Option Int32
  | 0, _, _, _, _ => none
  | n + 1, S, a0, a1, a2 => (if (12 : Int32) ≤ a2 then (some a1) else glet (a1 + ((a0 >>> (a2 &&& 31)) &&& (1 : Int32))) fun v2 => glet (a2 + (1 : Int32)) fun v3 => (fX11_bits_4 n S a0 v2 v3))
set_option maxRecDepth 100000 in
set_option maxHeartbeats 4000000 in
theorem wX11_bits_4 {p : Program} {l : Launch} {e : Env} {s : State} {m : MethodId} {args : Array Value} {below : List Frame} {meth : Method} {c : Code} {E : GE} {res : Int32} (hc : GM E p s m args meth c RX11 cX11_bits 3 (some .int)) : ∀ (n : Nat), ∀ (S : GS) (a0 : Int32) (a1 : Int32) (a2 : Int32) (H : Heap) (locs : List Loc) (ls : Array Slot), lv_has ls 3 [(0, .int a0), (1, .int a1), (2, .int a2)] → GX E S H locs → fX11_bits_4 n S a0 a1 a2 = some res → W p l e rmX11_bits s m args below meth c H locs 0 0 (gZ E below args s (some (.int res)) S) (F0 m 4 ls []) := by
  obtain ⟨hx, hb, -, -, -, hown, hts, -, -⟩ := id hc
  intro n
  induction n with
  | zero => intro S a0 a1 a2 H locs ls hl hG h; cases h
  | succ n ih =>
    intro S a0 a1 a2 H locs ls hl hG h
    rw [fX11_bits_4] at h
    refine lv_iload_n hx hb dX11_bits_4 rfl (lv_at hl 2 rfl) ?_
    refine lv_bipush (v := (12 : Int32)) hx hb dX11_bits_5 (by decide) ?_
    refine lv_icmp_ge (tgt := 24) hx hb dX11_bits_7 (by decide) (fun c1 => ?_) (fun c1 => ?_)
    · have h := g_pos c1 h
      refine lv_iload_n hx hb dX11_bits_24 rfl (lv_at hl 1 rfl) ?_
      exact g_iretp hc hG dX11_bits_25 h
    · have h := g_neg c1 h
      refine lv_iload_n hx hb dX11_bits_10 rfl (lv_at hl 1 rfl) ?_
      refine lv_iload_n hx hb dX11_bits_11 rfl (lv_at hl 0 rfl) ?_
      refine lv_iload_n hx hb dX11_bits_12 rfl (lv_at hl 2 rfl) ?_
      refine lv_ishr hx hb dX11_bits_13 ?_
      refine lv_iconst (v := (1 : Int32)) hx hb dX11_bits_14 (by decide) ?_
      refine lv_iand hx hb dX11_bits_15 ?_
      refine lv_iadd hx hb dX11_bits_16 ?_
      refine lv_topi (fun v2 ev2 => ?_)
      have h := g_let ev2 h
      refine lv_istore_n (lv' := [(1, .int v2), (0, .int a0), (2, .int a2)]) hx hb dX11_bits_17 rfl hl (by decide) rfl (fun ls hl => ?_)
      obtain ⟨v3, ev3⟩ : ∃ y : Int32, y = (a2 + (1 : Int32)) := ⟨_, rfl⟩
      have h := g_let ev3 h
      refine lv_iinc (v := v3) (lv' := [(2, .int v3), (1, .int v2), (0, .int a0)]) hx hb dX11_bits_18 hl (k := 2) rfl (by rw [ev3]; rfl) (by decide) rfl (fun ls hl => ?_)
      refine lv_goto (tgt := 4) hx hb dX11_bits_21 (by decide) ?_
      exact ih S a0 v2 v3 _ _ _ (lv_sub hl [2, 1, 0] rfl) hG h
def fX11_bits (S : GS) (a0 : Int32) : Option Int32 := glet (0 : Int32) fun v1 => glet (0 : Int32) fun v2 => (fX11_bits_4 FU S a0 v1 v2)
set_option maxRecDepth 100000 in
set_option maxHeartbeats 4000000 in
theorem wX11_bits_0 {p : Program} {l : Launch} {e : Env} {s : State} {m : MethodId} {args : Array Value} {below : List Frame} {meth : Method} {c : Code} {E : GE} {res : Int32} (hc : GM E p s m args meth c RX11 cX11_bits 3 (some .int)) : ∀ (S : GS) (a0 : Int32) (H : Heap) (locs : List Loc) (ls : Array Slot), lv_has ls 3 [(0, .int a0)] → GX E S H locs → fX11_bits S a0 = some res → W p l e rmX11_bits s m args below meth c H locs 0 0 (gZ E below args s (some (.int res)) S) (F0 m 0 ls []) := by
  obtain ⟨hx, hb, -, -, -, hown, hts, -, -⟩ := id hc
  intro S a0 H locs ls hl hG h
  unfold fX11_bits at h
  refine lv_iconst (v := (0 : Int32)) hx hb dX11_bits_0 (by decide) ?_
  refine lv_topi (fun v1 ev1 => ?_)
  have h := g_let ev1 h
  refine lv_istore_n (lv' := [(1, .int v1), (0, .int a0)]) hx hb dX11_bits_1 rfl hl (by decide) rfl (fun ls hl => ?_)
  refine lv_iconst (v := (0 : Int32)) hx hb dX11_bits_2 (by decide) ?_
  refine lv_topi (fun v2 ev2 => ?_)
  have h := g_let ev2 h
  refine lv_istore_n (lv' := [(2, .int v2), (1, .int v1), (0, .int a0)]) hx hb dX11_bits_3 rfl hl (by decide) rfl (fun ls hl => ?_)
  exact wX11_bits_4 hc FU S a0 v1 v2 _ _ _ (lv_sub hl [2, 1, 0] rfl) hG h
theorem mX11_bits (l : Launch) (E : GE) {S : GS} {a0 : Int32} {res : Int32} (h : fX11_bits S a0 = some res) : gMet l E yX11_bits cX11_bits 3 (some .int) rmX11_bits [.int a0] S (some (.int res)) S :=
  g_met (by decide) (Nat.le_of_ble_eq_true rfl) rfl fun p e s m below meth c H ls hc hG hl => wX11_bits_0 hc S a0 H [] ls hl hG h
abbrev rmX11_votes : Room := { frames := 1, cells := 0, slots := 0, locals := 22 }
def fX11_votes_6 : Nat → GS → Int32 → Int32 → Int32 → Int32 → Int32 → Option Int32
  | 0, _, _, _, _, _, _ => none
  | n + 1, S, a1, a2, a3, a4, a5 => (if (S.1 54 41) ≤ a5 then gbv (fX11_bits S a4) fun r3 => (some r3) else (if gib a5 120 = true then (if (S.1 78 a5.toNatClampNeg) = 0 then glet (a5 + (1 : Int32)) fun v6 => (fX11_votes_6 n S a1 a2 a3 a4 v6) else (if (S.1 71 a5.toNatClampNeg) = 0 then (if (S.1 73 a5.toNatClampNeg) = a1 then (if gib (S.1 75 a5.toNatClampNeg) 12 = true then (if (S.1 79 ((S.1 75 a5.toNatClampNeg)).toNatClampNeg) = a2 then (if ((S.1 76 a5.toNatClampNeg) &&& (a3 ^^^ (-1 : Int32))) = 0 then glet (a4 ||| ((1 : Int32) <<< ((S.1 74 a5.toNatClampNeg) &&& 31))) fun v16 => glet (a5 + (1 : Int32)) fun v17 => (fX11_votes_6 n S a1 a2 a3 v16 v17) else glet (a5 + (1 : Int32)) fun v15 => (fX11_votes_6 n S a1 a2 a3 a4 v15)) else glet (a5 + (1 : Int32)) fun v13 => (fX11_votes_6 n S a1 a2 a3 a4 v13)) else none) else glet (a5 + (1 : Int32)) fun v10 => (fX11_votes_6 n S a1 a2 a3 a4 v10)) else glet (a5 + (1 : Int32)) fun v8 => (fX11_votes_6 n S a1 a2 a3 a4 v8))) else none))
set_option maxRecDepth 100000 in
set_option maxHeartbeats 4000000 in
theorem wX11_votes_6 {p : Program} {l : Launch} {e : Env} {s : State} {m : MethodId} {args : Array Value} {below : List Frame} {meth : Method} {c : Code} {E : GE} {res : Int32} (hc : GM E p s m args meth c RX11 cX11_votes 6 (some .int)) : ∀ (n : Nat), ∀ (S : GS) (a1 : Int32) (a2 : Int32) (a3 : Int32) (a4 : Int32) (a5 : Int32) (H : Heap) (locs : List Loc) (ls : Array Slot), lv_has ls 6 [(0, gR E 54), (1, .int a1), (2, .int a2), (3, .int a3), (4, .int a4), (5, .int a5)] → GX E S H locs → fX11_votes_6 n S a1 a2 a3 a4 a5 = some res → W p l e rmX11_votes s m args below meth c H locs 0 0 (gZ E below args s (some (.int res)) S) (F0 m 6 ls []) := by
  obtain ⟨hx, hb, -, -, -, hown, hts, -, -⟩ := id hc
  intro n
  induction n with
  | zero => intro S a1 a2 a3 a4 a5 H locs ls hl hG h; cases h
  | succ n ih =>
    intro S a1 a2 a3 a4 a5 H locs ls hl hG h
    rw [fX11_votes_6] at h
    refine lv_iload hx hb dX11_votes_6 (lv_at hl 5 rfl) ?_
    refine lv_aload_n hx hb dX11_votes_8 rfl (lv_at hl 0 rfl) ?_
    refine g_getI hc hG 54 flX11_282 rfl rfl dX11_votes_9 ?_
    refine lv_icmp_ge (tgt := 96) hx hb dX11_votes_12 (by decide) (fun c1 => ?_) (fun c1 => ?_)
    · have h := g_pos c1 h
      refine lv_iload hx hb dX11_votes_96 (lv_at hl 4 rfl) ?_
      obtain ⟨r3, hm2, h⟩ := g_bv h
      refine g_callSi (As := [.int a4]) hc hG (mX11_bits l E hm2) mlX11_315 mcX11_bits msX11_bits rfl hl.1 rfl rfl ⟨by decide, by decide⟩ (Nat.le_of_ble_eq_true rfl) ⟨by decide, by decide⟩ dX11_votes_98 rfl (fun H locs hG => ?_)
      exact g_iretp hc hG dX11_votes_101 h
    · have h := g_neg c1 h
      refine lv_aload_n hx hb dX11_votes_15 rfl (lv_at hl 0 rfl) ?_
      refine g_getR hc hG 54 78 flX11_88 rfl rfl rfl dX11_votes_16 ?_
      refine lv_iload hx hb dX11_votes_19 (lv_at hl 5 rfl) ?_
      obtain ⟨hi4, h⟩ := g_if h
      refine g_zald hc hG 78 120 (a5.toNatClampNeg) rfl rfl hi4 rfl dX11_votes_21 ?_
      refine lv_if_eq (tgt := 90) hx hb dX11_votes_22 (by decide) (fun c5 => ?_) (fun c5 => ?_)
      · have h := g_pos c5 h
        obtain ⟨v6, ev6⟩ : ∃ y : Int32, y = (a5 + (1 : Int32)) := ⟨_, rfl⟩
        have h := g_let ev6 h
        refine lv_iinc (v := v6) (lv' := [(5, .int v6), (0, gR E 54), (1, .int a1), (2, .int a2), (3, .int a3), (4, .int a4)]) hx hb dX11_votes_90 hl (k := 5) rfl (by rw [ev6]; rfl) (by decide) rfl (fun ls hl => ?_)
        refine lv_goto (tgt := 6) hx hb dX11_votes_93 (by decide) ?_
        exact ih S a1 a2 a3 a4 v6 _ _ _ (lv_sub hl [1, 2, 3, 4, 5, 0] rfl) hG h
      · have h := g_neg c5 h
        refine lv_aload_n hx hb dX11_votes_25 rfl (lv_at hl 0 rfl) ?_
        refine g_getR hc hG 54 71 flX11_67 rfl rfl rfl dX11_votes_26 ?_
        refine lv_iload hx hb dX11_votes_29 (lv_at hl 5 rfl) ?_
        refine g_iald hc hG 71 120 (a5.toNatClampNeg) rfl rfl hi4 rfl dX11_votes_31 ?_
        refine lv_if_ne (tgt := 90) hx hb dX11_votes_32 (by decide) (fun c7 => ?_) (fun c7 => ?_)
        · have h := g_neg c7 h
          obtain ⟨v8, ev8⟩ : ∃ y : Int32, y = (a5 + (1 : Int32)) := ⟨_, rfl⟩
          have h := g_let ev8 h
          refine lv_iinc (v := v8) (lv' := [(5, .int v8), (0, gR E 54), (1, .int a1), (2, .int a2), (3, .int a3), (4, .int a4)]) hx hb dX11_votes_90 hl (k := 5) rfl (by rw [ev8]; rfl) (by decide) rfl (fun ls hl => ?_)
          refine lv_goto (tgt := 6) hx hb dX11_votes_93 (by decide) ?_
          exact ih S a1 a2 a3 a4 v8 _ _ _ (lv_sub hl [1, 2, 3, 4, 5, 0] rfl) hG h
        · have h := g_pos c7 h
          refine lv_aload_n hx hb dX11_votes_35 rfl (lv_at hl 0 rfl) ?_
          refine g_getR hc hG 54 73 flX11_73 rfl rfl rfl dX11_votes_36 ?_
          refine lv_iload hx hb dX11_votes_39 (lv_at hl 5 rfl) ?_
          refine g_iald hc hG 73 120 (a5.toNatClampNeg) rfl rfl hi4 rfl dX11_votes_41 ?_
          refine lv_iload_n hx hb dX11_votes_42 rfl (lv_at hl 1 rfl) ?_
          refine lv_icmp_ne (tgt := 90) hx hb dX11_votes_43 (by decide) (fun c9 => ?_) (fun c9 => ?_)
          · have h := g_neg c9 h
            obtain ⟨v10, ev10⟩ : ∃ y : Int32, y = (a5 + (1 : Int32)) := ⟨_, rfl⟩
            have h := g_let ev10 h
            refine lv_iinc (v := v10) (lv' := [(5, .int v10), (0, gR E 54), (1, .int a1), (2, .int a2), (3, .int a3), (4, .int a4)]) hx hb dX11_votes_90 hl (k := 5) rfl (by rw [ev10]; rfl) (by decide) rfl (fun ls hl => ?_)
            refine lv_goto (tgt := 6) hx hb dX11_votes_93 (by decide) ?_
            exact ih S a1 a2 a3 a4 v10 _ _ _ (lv_sub hl [1, 2, 3, 4, 5, 0] rfl) hG h
          · have h := g_pos c9 h
            refine lv_aload_n hx hb dX11_votes_46 rfl (lv_at hl 0 rfl) ?_
            refine g_getR hc hG 54 79 flX11_91 rfl rfl rfl dX11_votes_47 ?_
            refine lv_aload_n hx hb dX11_votes_50 rfl (lv_at hl 0 rfl) ?_
            refine g_getR hc hG 54 75 flX11_79 rfl rfl rfl dX11_votes_51 ?_
            refine lv_iload hx hb dX11_votes_54 (lv_at hl 5 rfl) ?_
            refine g_iald hc hG 75 120 (a5.toNatClampNeg) rfl rfl hi4 rfl dX11_votes_56 ?_
            obtain ⟨hi11, h⟩ := g_if h
            refine g_iald hc hG 79 12 (((S.1 75 a5.toNatClampNeg)).toNatClampNeg) rfl rfl hi11 rfl dX11_votes_57 ?_
            refine lv_iload_n hx hb dX11_votes_58 rfl (lv_at hl 2 rfl) ?_
            refine lv_icmp_ne (tgt := 90) hx hb dX11_votes_59 (by decide) (fun c12 => ?_) (fun c12 => ?_)
            · have h := g_neg c12 h
              obtain ⟨v13, ev13⟩ : ∃ y : Int32, y = (a5 + (1 : Int32)) := ⟨_, rfl⟩
              have h := g_let ev13 h
              refine lv_iinc (v := v13) (lv' := [(5, .int v13), (0, gR E 54), (1, .int a1), (2, .int a2), (3, .int a3), (4, .int a4)]) hx hb dX11_votes_90 hl (k := 5) rfl (by rw [ev13]; rfl) (by decide) rfl (fun ls hl => ?_)
              refine lv_goto (tgt := 6) hx hb dX11_votes_93 (by decide) ?_
              exact ih S a1 a2 a3 a4 v13 _ _ _ (lv_sub hl [1, 2, 3, 4, 5, 0] rfl) hG h
            · have h := g_pos c12 h
              refine lv_aload_n hx hb dX11_votes_62 rfl (lv_at hl 0 rfl) ?_
              refine g_getR hc hG 54 76 flX11_82 rfl rfl rfl dX11_votes_63 ?_
              refine lv_iload hx hb dX11_votes_66 (lv_at hl 5 rfl) ?_
              refine g_iald hc hG 76 120 (a5.toNatClampNeg) rfl rfl hi4 rfl dX11_votes_68 ?_
              refine lv_iload_n hx hb dX11_votes_69 rfl (lv_at hl 3 rfl) ?_
              refine lv_iconst (v := (-1 : Int32)) hx hb dX11_votes_70 (by decide) ?_
              refine lv_ixor hx hb dX11_votes_71 ?_
              refine lv_iand hx hb dX11_votes_72 ?_
              refine lv_if_ne (tgt := 90) hx hb dX11_votes_73 (by decide) (fun c14 => ?_) (fun c14 => ?_)
              · have h := g_neg c14 h
                obtain ⟨v15, ev15⟩ : ∃ y : Int32, y = (a5 + (1 : Int32)) := ⟨_, rfl⟩
                have h := g_let ev15 h
                refine lv_iinc (v := v15) (lv' := [(5, .int v15), (0, gR E 54), (1, .int a1), (2, .int a2), (3, .int a3), (4, .int a4)]) hx hb dX11_votes_90 hl (k := 5) rfl (by rw [ev15]; rfl) (by decide) rfl (fun ls hl => ?_)
                refine lv_goto (tgt := 6) hx hb dX11_votes_93 (by decide) ?_
                exact ih S a1 a2 a3 a4 v15 _ _ _ (lv_sub hl [1, 2, 3, 4, 5, 0] rfl) hG h
              · have h := g_pos c14 h
                refine lv_iload hx hb dX11_votes_76 (lv_at hl 4 rfl) ?_
                refine lv_iconst (v := (1 : Int32)) hx hb dX11_votes_78 (by decide) ?_
                refine lv_aload_n hx hb dX11_votes_79 rfl (lv_at hl 0 rfl) ?_
                refine g_getR hc hG 54 74 flX11_76 rfl rfl rfl dX11_votes_80 ?_
                refine lv_iload hx hb dX11_votes_83 (lv_at hl 5 rfl) ?_
                refine g_iald hc hG 74 120 (a5.toNatClampNeg) rfl rfl hi4 rfl dX11_votes_85 ?_
                refine lv_ishl hx hb dX11_votes_86 ?_
                refine lv_ior hx hb dX11_votes_87 ?_
                refine lv_topi (fun v16 ev16 => ?_)
                have h := g_let ev16 h
                refine lv_istore (lv' := [(4, .int v16), (0, gR E 54), (1, .int a1), (2, .int a2), (3, .int a3), (5, .int a5)]) hx hb dX11_votes_88 hl (by decide) rfl (fun ls hl => ?_)
                obtain ⟨v17, ev17⟩ : ∃ y : Int32, y = (a5 + (1 : Int32)) := ⟨_, rfl⟩
                have h := g_let ev17 h
                refine lv_iinc (v := v17) (lv' := [(5, .int v17), (4, .int v16), (0, gR E 54), (1, .int a1), (2, .int a2), (3, .int a3)]) hx hb dX11_votes_90 hl (k := 5) rfl (by rw [ev17]; rfl) (by decide) rfl (fun ls hl => ?_)
                refine lv_goto (tgt := 6) hx hb dX11_votes_93 (by decide) ?_
                exact ih S a1 a2 a3 v16 v17 _ _ _ (lv_sub hl [2, 3, 4, 5, 1, 0] rfl) hG h
def fX11_votes (S : GS) (a1 : Int32) (a2 : Int32) (a3 : Int32) : Option Int32 := glet (0 : Int32) fun v1 => glet (0 : Int32) fun v2 => (fX11_votes_6 FU S a1 a2 a3 v1 v2)
set_option maxRecDepth 100000 in
set_option maxHeartbeats 4000000 in
theorem wX11_votes_0 {p : Program} {l : Launch} {e : Env} {s : State} {m : MethodId} {args : Array Value} {below : List Frame} {meth : Method} {c : Code} {E : GE} {res : Int32} (hc : GM E p s m args meth c RX11 cX11_votes 6 (some .int)) : ∀ (S : GS) (a1 : Int32) (a2 : Int32) (a3 : Int32) (H : Heap) (locs : List Loc) (ls : Array Slot), lv_has ls 6 [(0, gR E 54), (1, .int a1), (2, .int a2), (3, .int a3)] → GX E S H locs → fX11_votes S a1 a2 a3 = some res → W p l e rmX11_votes s m args below meth c H locs 0 0 (gZ E below args s (some (.int res)) S) (F0 m 0 ls []) := by
  obtain ⟨hx, hb, -, -, -, hown, hts, -, -⟩ := id hc
  intro S a1 a2 a3 H locs ls hl hG h
  unfold fX11_votes at h
  refine lv_iconst (v := (0 : Int32)) hx hb dX11_votes_0 (by decide) ?_
  refine lv_topi (fun v1 ev1 => ?_)
  have h := g_let ev1 h
  refine lv_istore (lv' := [(4, .int v1), (0, gR E 54), (1, .int a1), (2, .int a2), (3, .int a3)]) hx hb dX11_votes_1 hl (by decide) rfl (fun ls hl => ?_)
  refine lv_iconst (v := (0 : Int32)) hx hb dX11_votes_3 (by decide) ?_
  refine lv_topi (fun v2 ev2 => ?_)
  have h := g_let ev2 h
  refine lv_istore (lv' := [(5, .int v2), (4, .int v1), (0, gR E 54), (1, .int a1), (2, .int a2), (3, .int a3)]) hx hb dX11_votes_4 hl (by decide) rfl (fun ls hl => ?_)
  exact wX11_votes_6 hc FU S a1 a2 a3 v1 v2 _ _ _ (lv_sub hl [2, 3, 4, 5, 1, 0] rfl) hG h
theorem mX11_votes (l : Launch) (E : GE) {S : GS} {a1 : Int32} {a2 : Int32} {a3 : Int32} {res : Int32} (h : fX11_votes S a1 a2 a3 = some res) : gMet l E yX11_votes cX11_votes 6 (some .int) rmX11_votes [gR E 54, .int a1, .int a2, .int a3] S (some (.int res)) S :=
  g_met (by decide) (Nat.le_of_ble_eq_true rfl) rfl fun p e s m below meth c H ls hc hG hl => wX11_votes_0 hc S a1 a2 a3 H [] ls hl hG h

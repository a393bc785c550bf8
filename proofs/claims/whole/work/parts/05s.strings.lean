/-! String constants: ldc, length, charAt; the static row SETS_WITHOUT -/
section GStr
variable {p : Program} {l : Launch} {e : Env} {R : Room} {s : State} {m : MethodId} {args : Array Value} {below : List Frame} {meth : Method} {c : Code} {H : Heap} {locs : List Loc} {cells slots : Nat} {Q : State → Prop}
variable {E : GE} {S S' : GS} {own : String} {cc : ByteArray} {nL pc : Nat} {ret : Option FieldType} {ls : Array Slot} {rest st0 : List Value}
theorem g_ldcs (hc : GM E p s m args meth c own cc nL ret) (i : Nat) {index : Nat} (hi : i < 18) (ho : gsoL.getD i "" = own) (hx : gsxL.getD i 0 = index) (hdg : decode cc pc = .ok (.ldc index, 2))
    (kk : W p l e R s m args below meth c H locs cells slots Q (F0 m (pc + 2) ls (.ref (E.2.2.2.1 i) :: rest))) : W p l e R s m args below meth c H locs cells slots Q (F0 m pc ls rest) := by
  obtain ⟨hx', hb, -, -, -, hown, hts, hK, -⟩ := hc
  have hR := hK.2.2.2.1 i hi
  rw [ho, hx] at hR
  exact va_ldcS hx' hb hown hR hdg kk
theorem g_xget (hc : GM E p s m args meth c own cc nL ret) (hG : GX E S H locs) {o n d ref : String} {index q : Nat} {v : Value} (hE : va_OF o n d v q (gA E.1) s E.1) (hlink : Cond.fieldLink own index ref n d ∈ lw_g) (hr : ref = o) (hdg : decode cc pc = .ok (.getfield index, 3))
    (kk : W p l e R s m args below meth c H locs cells slots Q (F0 m (pc + 3) ls (v :: rest))) : W p l e R s m args below meth c H locs cells slots Q (F0 m pc ls (.ref q :: rest)) := by
  obtain ⟨hx, hb, -, -, -, hown, hts, hK, -⟩ := hc
  obtain ⟨cf, k, fi, f, cell, h1, h2, h3, h4, h5, h6⟩ := hE.kept hG.2.2.1
  subst hr
  exact W.getf hx hb hown (hts _ hlink) h1 h2 h3 h4 (v := v) h5 rfl rfl hdg kk
theorem g_xgets (hc : GM E p s m args meth c own cc nL ret) (hG : GX E S H locs) {C n d ref : String} {index : Nat} {v : Value} (hZ : va_Z C n d v (gA E.1) s E.1) (hlink : Cond.fieldLink own index ref n d ∈ lw_g) (hr : ref = C) (hdg : decode cc pc = .ok (.getstatic index, 3))
    (kk : W p l e R s m args below meth c H locs cells slots Q (F0 m (pc + 3) ls (v :: rest))) : W p l e R s m args below meth c H locs cells slots Q (F0 m pc ls rest) := by
  obtain ⟨hx, hb, -, -, -, hown, hts, hK, -⟩ := hc
  obtain ⟨cf, kf, fi, f, a, cell, h1, h2, h3, h4, h5, h6, h7, h8⟩ := hZ
  subst hr
  exact W.gets hx hb hown (hts _ hlink) h1 h2 h3 h4 (by rw [hG.2.2.1 a (Array.getElem?_eq_some_iff.mp h5).1 h8]; exact h5) (fun e => by rw [e] at h6; cases h6) h7 rfl hdg kk
theorem g_xalen (hc : GM E p s m args meth c own cc nL ret) (hG : GX E S H locs) {ty : FieldType} {t N : Nat} {f : Nat → Value} (hT : va_T ty t N f (gA E.1) s E.1) (hdg : decode cc pc = .ok (.arraylength, 1))
    (kk : W p l e R s m args below meth c H locs cells slots Q (F0 m (pc + 1) ls (.int (Int32.ofNat N) :: rest))) : W p l e R s m args below meth c H locs cells slots Q (F0 m pc ls (.ref t :: rest)) := by
  obtain ⟨hx, hb, -, -, -, hown, hts, hK, -⟩ := hc
  obtain ⟨cell, h1, h2, h3, h4, h5, h6, h7⟩ := hT.kept hG.2.2.1
  exact W.alen (n := Int32.ofNat N) hx hb h1 h2 h5 rfl rfl hdg kk
theorem g_xiald (hc : GM E p s m args meth c own cc nL ret) (hG : GX E S H locs) {t N : Nat} {f : Nat → Value} (hT : va_T .int t N f (gA E.1) s E.1) {i : Int32} (hin : gib i N = true) (hdg : decode cc pc = .ok (.iaload, 1))
    (kk : W p l e R s m args below meth c H locs cells slots Q (F0 m (pc + 1) ls (f i.toNatClampNeg :: rest))) : W p l e R s m args below meth c H locs cells slots Q (F0 m pc ls (.int i :: .ref t :: rest)) := by
  obtain ⟨hx, hb, -, -, -, hown, hts, hK, -⟩ := hc
  obtain ⟨cell, h1, h2, h3, h4, h5, h6, h7⟩ := hT.kept hG.2.2.1
  have hin := gib_in hin
  have hlt : i.toNatClampNeg < N := Nat.not_le.mp fun q => hin (Or.inr q)
  exact W.iald hx hb h1 h2 h3 (fun q => hin (q.elim Or.inl (fun z => by omega))) (h6 _ hlt) rfl rfl hdg kk
theorem g_xbald (hc : GM E p s m args meth c own cc nL ret) (hG : GX E S H locs) {t N : Nat} {f : Nat → Value} (hT : va_T .byte t N f (gA E.1) s E.1) {i : Int32} (hin : gib i N = true) (hdg : decode cc pc = .ok (.baload, 1))
    (kk : W p l e R s m args below meth c H locs cells slots Q (F0 m (pc + 1) ls (f i.toNatClampNeg :: rest))) : W p l e R s m args below meth c H locs cells slots Q (F0 m pc ls (.int i :: .ref t :: rest)) := by
  obtain ⟨hx, hb, -, -, -, hown, hts, hK, -⟩ := hc
  obtain ⟨cell, h1, h2, h3, h4, h5, h6, h7⟩ := hT.kept hG.2.2.1
  have hin := gib_in hin
  have hlt : i.toNatClampNeg < N := Nat.not_le.mp fun q => hin (Or.inr q)
  exact W.bald hx hb h1 h2 h3 (fun q => hin (q.elim Or.inl (fun z => by omega))) (h6 _ hlt) rfl rfl hdg kk
theorem g_sw (hc : GM E p s m args meth c RX10 cc nL ret) (hG : GX E S H locs) {index : Nat} (hlink : Cond.fieldLink RX10 index "ReportedCases" "SETS_WITHOUT" "[I" ∈ lw_g) (hdg : decode cc pc = .ok (.getstatic index, 3))
    (kk : W p l e R s m args below meth c H locs cells slots Q (F0 m (pc + 3) ls (.ref E.2.2.2.2.2 :: rest))) : W p l e R s m args below meth c H locs cells slots Q (F0 m pc ls rest) :=
  g_xgets hc hG hc.2.2.2.2.2.2.2.1.2.2.2.2.2.2.1 hlink rfl hdg kk
theorem g_swald (hc : GM E p s m args meth c own cc nL ret) (hG : GX E S H locs) {i : Int32} (hin : gib i 5 = true) (hdg : decode cc pc = .ok (.iaload, 1))
    (kk : W p l e R s m args below meth c H locs cells slots Q (F0 m (pc + 1) ls (.int (gsw i) :: rest))) : W p l e R s m args below meth c H locs cells slots Q (F0 m pc ls (.int i :: .ref E.2.2.2.2.2 :: rest)) :=
  g_xiald hc hG hc.2.2.2.2.2.2.2.1.2.2.2.2.2.2.2 hin hdg kk
variable {y : MethodName} {ccy : ByteArray} {nLy n idx : Nat} {rety : Option FieldType} {rm : Room} {v : Option Value}
theorem g_callX (hc : GM E p s m args meth c own cc nL ret) (hG : GX E S H locs) (k : Nat) {As : List Value} (hk : k < 18) (hM : gMet l E y ccy nLy rety rm (.ref (E.2.2.2.1 k) :: As) S v S') (hl : Cond.methodLink own idx y ∈ lw_g) (hm : MCk y ccy nLy rety n) (hi : MIk y) (hqn : y.cls = "java/lang/String") (hn : As.length = n) (hls : ls.size = nL) (hrc : rm.cells = 0) (hrs : rm.slots = 0) (hR : rm.frames + 1 ≤ R.frames ∧ 8 + (nLy + 11) + rm.locals ≤ R.locals) (hw : (rest.map fun v => v.category).sum ≤ 8) (hcs : cells ≤ R.cells ∧ slots ≤ R.slots) (hdg : decode cc pc = .ok (.invokevirtual idx, 3)) (hst : st0 = As.reverse ++ .ref (E.2.2.2.1 k) :: rest)
    (kk : ∀ (H1 : Heap) (locs1 : List Loc), GX E S' H1 locs1 → W p l e R s m args below meth c H1 locs1 cells slots Q (F0 m (pc + 3) ls (v.toList ++ rest))) : W p l e R s m args below meth c H locs cells slots Q (F0 m pc ls st0) := by
  have hB := g_callB (R := R) hc hl hm hrc hrs hR
  obtain ⟨hx, hb, hml, -, -, hown, hts, hK, -⟩ := hc
  refine g_ran (av := .ref (E.2.2.2.1 k) :: As) (va_runV (C := y.cls) (As := As) (rest := rest) ⟨hx, hb, hml, hown, hts⟩ hM ⟨hB, hts _ hi.1, hts _ hi.2⟩ ⟨gPre_blind E _ S, ?_, fun U hU hW => ⟨rfl, by rw [hU]; exact hG.nil, hK.moved hW⟩⟩ rfl hn hls hst (by simpa using hw) hdg hcs) hG kk
  rw [hqn]
  obtain ⟨cell, h1, h2, h3, -⟩ := (hK.2.2.1.1 k hk).1.kept hG.2.2.1
  exact ⟨cell, h1, h2, h3⟩
theorem g_callXi {r : Int32} (hc : GM E p s m args meth c own cc nL ret) (hG : GX E S H locs) (k : Nat) {As : List Value} (hk : k < 18) (hM : gMet l E y ccy nLy rety rm (.ref (E.2.2.2.1 k) :: As) S (some (.int r)) S') (hl : Cond.methodLink own idx y ∈ lw_g) (hm : MCk y ccy nLy rety n) (hi : MIk y) (hqn : y.cls = "java/lang/String") (hn : As.length = n) (hls : ls.size = nL) (hrc : rm.cells = 0) (hrs : rm.slots = 0) (hR : rm.frames + 1 ≤ R.frames ∧ 8 + (nLy + 11) + rm.locals ≤ R.locals) (hw : (rest.map fun v => v.category).sum ≤ 8) (hcs : cells ≤ R.cells ∧ slots ≤ R.slots) (hdg : decode cc pc = .ok (.invokevirtual idx, 3)) (hst : st0 = As.reverse ++ .ref (E.2.2.2.1 k) :: rest)
    (kk : ∀ (H1 : Heap) (locs1 : List Loc), GX E S' H1 locs1 → W p l e R s m args below meth c H1 locs1 cells slots Q (F0 m (pc + 3) ls (.int r :: rest))) : W p l e R s m args below meth c H locs cells slots Q (F0 m pc ls st0) := g_callX hc hG k hk hM hl hm hi hqn hn hls hrc hrs hR hw hcs hdg hst kk
theorem g_callSs {r : Nat} (hc : GM E p s m args meth c own cc nL ret) (hG : GX E S H locs) {As : List Value} (hM : gMet l E y ccy nLy rety rm As S (some (.ref (E.2.2.2.1 r))) S') (hl : Cond.methodLink own idx y ∈ lw_g) (hm : MCk y ccy nLy rety n) (hi : Cond.static y ∈ lw_g) (hn : As.length = n) (hls : ls.size = nL) (hrc : rm.cells = 0) (hrs : rm.slots = 0) (hR : rm.frames + 1 ≤ R.frames ∧ 8 + (nLy + 11) + rm.locals ≤ R.locals) (hw : (rest.map fun v => v.category).sum ≤ 8) (hcs : cells ≤ R.cells ∧ slots ≤ R.slots) (hdg : decode cc pc = .ok (.invokestatic idx, 3)) (hst : st0 = As.reverse ++ rest)
    (kk : ∀ (H1 : Heap) (locs1 : List Loc), GX E S' H1 locs1 → W p l e R s m args below meth c H1 locs1 cells slots Q (F0 m (pc + 3) ls (.ref (E.2.2.2.1 r) :: rest))) : W p l e R s m args below meth c H locs cells slots Q (F0 m pc ls st0) := g_callS hc hG hM hl hm hi hn hls hrc hrs hR hw hcs hdg hst kk
theorem g_xretp (hc : GM E p s m args meth c own cc nL (some (.object "java/lang/String"))) (hG : GX E S H locs) {r res : Nat} (hdg : decode cc pc = .ok (.areturn, 1)) (h : some r = some res) : W p l e R s m args below meth c H locs 0 0 (gZ E below args s (some (.ref (E.2.2.2.1 res))) S) (F0 m pc ls [.ref (E.2.2.2.1 r)]) := by
  cases h
  obtain ⟨hx, hb, -, hr, hlocks, -⟩ := hc
  exact W.aret hx hb hr (Or.inl ⟨_, rfl⟩) (Or.inr ⟨_, rfl⟩) (fun t ht _ => ⟨rfl, by rw [ht]; exact hG.nil⟩) hG.2.2.2 hdg
theorem g_nret {ty : FieldType} (hc : GM E p s m args meth c own cc nL (some ty)) (hG : GX E S H locs) {r : Int32} (hn : narrow ty (.int r) = .int r) (hdg : decode cc pc = .ok (.ireturn, 1)) : W p l e R s m args below meth c H locs 0 0 (gZ E below args s (some (.int r)) S) (F0 m pc ls [.int r]) := by
  obtain ⟨hx, hb, -, hr, hlocks, -⟩ := hc
  exact W.zret hx hb hr hn (fun t ht _ => ⟨rfl, by rw [ht]; exact hG.nil⟩) hG.2.2.2 hdg
end GStr
def fJ0_length_8abf5 (_ : GS) (i : Nat) : Option Int32 := if i < 18 then some (Int32.ofNat (gsnL.getD i 0)) else none
def fJ0_charAt_5068e (_ : GS) (i : Nat) (j : Int32) : Option Int32 := if i < 18 ∧ gib j (gsnL.getD i 0) = true then some (gsc i j.toNatClampNeg) else none
theorem gsc_c : ∀ i, i < 18 → ∀ j, j < gsnL.getD i 0 → (((gsc i j &&& 255).toUInt32 % 65536).toInt32 = gsc i j ∧ narrow .char (.int (gsc i j)) = .int (gsc i j)) := by decide +kernel
theorem gsn_s : ∀ i, i < 18 → gsnL.getD i 0 < 1000 := by decide +kernel
theorem fJ0_length_8abf5_lt {S : GS} {i : Nat} {r : Int32} (h : fJ0_length_8abf5 S i = some r) : i < 18 := (g_if h).1
theorem fJ0_charAt_5068e_lt {S : GS} {i : Nat} {j r : Int32} (h : fJ0_charAt_5068e S i j = some r) : i < 18 := (g_if h).1.1

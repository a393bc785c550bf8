/-! the constructors: a world that grows, cell by cell -/
abbrev FE : Type := Nat → va_E
def fu (F : FE) (j : Nat) (x : va_E) : FE := fun i => if i = j then x else F i
theorem fu_s {F : FE} {j : Nat} {x : va_E} : fu F j x j = x := if_pos rfl
theorem fu_n {F : FE} {j i : Nat} {x : va_E} (h : i ≠ j) : fu F j x i = F i := if_neg h
def gl (B : Nat) (F : FE) (k : Nat) : va_W := (List.range k).map fun i => (B + i, F i)
theorem gl_len {B : Nat} {F : FE} {k : Nat} : (gl B F k).length = k := by simp [gl]
theorem gl_at {B : Nat} {F : FE} {k i : Nat} (h : i < k) : (gl B F k)[i]? = some (B + i, F i) := by
  unfold gl
  rw [List.getElem?_map, List.getElem?_range h]
  rfl
theorem gl_D {H0 : Heap} {F : FE} {k : Nat} : va_D (gA H0) (gl H0.size F k) := by
  refine ⟨fun i j p q hp hq hpq => ?_, fun i q hq => ?_⟩
  · have hi : i < k := by rw [← gl_len (B := H0.size) (F := F) (k := k)]; exact (List.getElem?_eq_some_iff.mp hp).1
    have hj : j < k := by rw [← gl_len (B := H0.size) (F := F) (k := k)]; exact (List.getElem?_eq_some_iff.mp hq).1
    rw [gl_at hi] at hp
    rw [gl_at hj] at hq
    cases hp; cases hq
    exact Nat.add_left_cancel hpq
  · have hi : i < k := by rw [← gl_len (B := H0.size) (F := F) (k := k)]; exact (List.getElem?_eq_some_iff.mp hq).1
    rw [gl_at hi] at hq
    cases hq
    exact Nat.le_add_right _ _
theorem gl_set {B : Nat} {F : FE} {k j : Nat} {x : va_E} (h : j < k) : (gl B F k).set j (B + j, x) = gl B (fu F j x) k := by
  apply List.ext_getElem?
  intro i
  by_cases hi : i < k
  · rw [gl_at hi]
    by_cases hij : i = j
    · subst hij
      rw [List.getElem?_set_self (by rw [gl_len]; exact hi), fu_s]
    · rw [List.getElem?_set_ne (fun q => hij q.symm), gl_at hi, fu_n hij]
  · rw [List.getElem?_eq_none (by rw [List.length_set, gl_len]; omega), List.getElem?_eq_none (by rw [gl_len]; omega)]
theorem gl_app {B : Nat} {F : FE} {k : Nat} {x : va_E} : gl B F k ++ [(B + k, x)] = gl B (fu F k x) (k + 1) := by
  apply List.ext_getElem?
  intro i
  by_cases hi : i < k
  · rw [List.getElem?_append_left (by rw [gl_len]; exact hi), gl_at hi, gl_at (by omega), fu_n (by omega)]
  · rw [List.getElem?_append_right (by rw [gl_len]; omega), gl_len]
    by_cases hk : i = k
    · subst hk
      rw [gl_at (by omega), fu_s, Nat.sub_self]
      rfl
    · rw [List.getElem?_eq_none (by simp; omega), List.getElem?_eq_none (by rw [gl_len]; omega)]
def GP (E : GE) (k : Nat) (F : FE) (H : Heap) (locs : List Loc) : Prop := va_P E.2.1 vwCl (gl E.1.size F k) H ∧ va_S (gA E.1) E.1 H locs
theorem GP.ge {E : GE} {k : Nat} {F : FE} {H : Heap} {locs : List Loc} (h : GP E k F H locs) : E.1.size + k ≤ H.size := by
  cases k with
  | zero => exact h.2.1
  | succ k =>
    have h1 := (h.1 k _ (gl_at (Nat.lt_succ_self k))).lt
    show E.1.size + k + 1 ≤ H.size
    exact h1
theorem GP.nil {E : GE} {k : Nat} {F : FE} {H : Heap} {locs : List Loc} (h : GP E k F H locs) : GP E k F H [] := ⟨h.1, h.2.1, h.2.2.1, fun _ q => by cases q⟩
theorem GP.push {E : GE} {k : Nat} {F : FE} {H H1 : Heap} {locs : List Loc} {x : va_E} (h : GP E k F H locs) (hH : H.size = E.1.size + k) (z1 : H1.size = E.1.size + k + 1) (o1 : ∀ q, q < E.1.size + k → H1[q]? = H[q]?) (hx : va_at E.2.1 vwCl (E.1.size + k, x) H1) : GP E (k + 1) (fu F k x) H1 locs := by
  refine ⟨?_, by have := h.2.1; omega, fun q h1 h2 => ?_, h.2.2.2⟩
  · rw [← gl_app]
    refine (h.1.kept fun i q hq => o1 _ (by rw [← hH]; exact (h.1 i q hq).lt)).app (fun i q hq => ?_)
    have hz : i < 1 := (List.getElem?_eq_some_iff.mp hq).1
    rw [show i = 0 by omega] at hq
    cases hq
    exact hx
  · rw [o1 q (by omega)]
    exact h.2.2.1 q h1 h2
def FQk (own : String) (idx ci j : Nat) (t : FieldType) : Prop := ∃ (C : String) (T : u_T) (N : Nat) (ty : Nat → FieldType), vwCl[ci]? = some (C, T, N) ∧ (∀ w ∈ u_ws C T N, w ∈ lw_g) ∧ (∀ k, k < N → parseFieldDescriptor (T k).2.2.1 = some (ty k)) ∧ (∀ a, a < N → ∀ b, b < N → a ≠ b → (T a).2.1 ≠ (T b).2.1) ∧ j < N ∧ N = gcn ci ∧ Cond.fieldLink own idx (T j).1 (T j).2.1 (T j).2.2.1 ∈ lw_g ∧ (T j).2.2.2 = true ∧ (T j).1 = own ∧ parseFieldDescriptor (T j).2.2.1 = some t
def FNk (own : String) (idx ci j : Nat) : Prop := ∃ (C : String) (T : u_T) (N : Nat) (host : String), vwCl[ci]? = some (C, T, N) ∧ (∀ w ∈ u_ws C T N, w ∈ lw_g) ∧ j < N ∧ Cond.fieldLinkNest own idx (T j).1 (T j).2.1 (T j).2.2.1 host ∈ gnestM
/-- an object's class by its pool number -/
def CLk (own : String) (idx ci : Nat) (fs : List Value) (N : Nat) : Prop := ∃ (C : String) (T : u_T) (ty : Nat → FieldType), vwCl[ci]? = some (C, T, N) ∧ (∀ w ∈ u_ws C T N, w ∈ lw_g) ∧ (∀ k, k < N → parseFieldDescriptor (T k).2.2.1 = some (ty k)) ∧ Cond.classLink own idx C ∈ lw_g ∧ Cond.instantiable C N ∈ lw_g ∧ Cond.initialized C ∈ lw_g ∧ ∀ j, j < N → defaultValue (ty j) = vp_V fs j
section GGrow
variable {p : Program} {l : Launch} {e : Env} {R : Room} {s : State} {m : MethodId} {args : Array Value} {below : List Frame} {meth : Method} {c : Code} {H : Heap} {locs : List Loc} {cells slots : Nat} {Q : State → Prop}
variable {E : GE} {F F' : FE} {k : Nat} {own : String} {cc : ByteArray} {nL pc : Nat} {ret : Option FieldType} {ls : Array Slot} {rest st0 : List Value}
theorem w_hsz {g : JFrame} (kk : H.size ≤ s.heap.size + cells → W p l e R s m args below meth c H locs cells slots Q g) : W p l e R s m args below meth c H locs cells slots Q g := fun T hT X => kk (by rw [← hT]; exact X.same.2.2.1) T hT X
theorem p_obj (hc : GM E p s m args meth c own cc nL ret) {idx : Nat} (hl : Cond.methodLink own idx Lib.objectInit ∈ lw_g) {a : Addr} (hls : ls.size = nL) (hR : 1 ≤ R.frames ∧ (rest.map fun v => v.category).sum + 12 ≤ R.locals) (hd : decode cc pc = .ok (.invokespecial idx, 3))
    (kk : W p l e R s m args below meth c H locs cells slots Q (F0 m (pc + 3) ls rest)) : W p l e R s m args below meth c H locs cells slots Q (F0 m pc ls (.ref a :: rest)) := by
  obtain ⟨hx, hb, hml, -, -, hown, hts, -, -⟩ := hc
  refine W.objInit hx hb hown (hts _ hl) (hts _ (lw_g_of 31 (by decide +kernel) (by decide +kernel))) (hts _ (lw_g_of 32 (by decide +kernel) (by decide +kernel))) rfl (hls.trans hml.symm) rfl hd hR.1 ?_ kk
  show 2 * 0 + _ + 12 ≤ _
  omega
theorem p_newa (hc : GM E p s m args meth c own cc nL ret) (hG : GP E k F H locs) (hz : s.heap.size + cells = E.1.size + k) {atype : ArrayType} {ty : FieldType} (hty : newarray.typeOf atype = ty) (ti : Nat) (hti : (gtys E.2.2.1)[ti]? = some (E.2.2.1 ti, ty)) (harr : Cond.arrayClass ty ∈ lw_g) {n : Int32} {N : Nat} {a0 : vp_A} (ha : ∀ cA : ClassId, vp_cell cA a0 = arrV cA N (fun _ => defaultValue ty)) (hn : ¬ n < 0) (hN : n.toNatClampNeg = N) (hbytes : N * componentBytes ty ≤ 536870912) (hcells : cells + 1 ≤ R.cells) (hslots : slots + N ≤ R.slots) (hdg : decode cc pc = .ok (.newarray atype, 2))
    (kk : ∀ H1 : Heap, GP E (k + 1) (fu F k (.inl (E.2.2.1 ti, a0))) H1 locs → W p l e R s m args below meth c H1 locs (cells + 1) (slots + N) Q (F0 m (pc + 2) ls (gR E k :: rest))) : W p l e R s m args below meth c H locs cells slots Q (F0 m pc ls (.int n :: rest)) := by
  obtain ⟨hx, hb, -, -, -, hown, hts, hK, -⟩ := hc
  refine w_hsz fun hle => ?_
  have hH : H.size = E.1.size + k := by have := hG.ge; omega
  subst hty
  refine va_newaK hx hb (hts _ harr) rfl hdg rfl hn hN hbytes hcells hslots hH fun H1 cA e1 z1 o1 hAr hNm => ?_
  have h2 := (hK.1.2 ti _ hti).2
  have hcs : cA = E.2.2.1 ti := by cases atype <;> exact Option.some.inj (hNm.symm.trans h2)
  subst hcs
  refine kk H1 (hG.push hH z1 o1 ?_)
  show H1[E.1.size + k]? = some (vp_cell _ _)
  rw [ha]
  exact e1
theorem p_new (hc : GM E p s m args meth c own cc nL ret) (hG : GP E k F H locs) (hz : s.heap.size + cells = E.1.size + k) {idx ci N : Nat} {fs : List Value} (hC : CLk own idx ci fs N) (hcells : cells + 1 ≤ R.cells) (hslots : slots + N ≤ R.slots) (hdg : decode cc pc = .ok (.new idx, 3))
    (kk : ∀ H1 : Heap, GP E (k + 1) (fu F k (.inr (ci, fs))) H1 locs → W p l e R s m args below meth c H1 locs (cells + 1) (slots + N) Q (F0 m (pc + 3) ls (gR E k :: rest))) : W p l e R s m args below meth c H locs cells slots Q (F0 m pc ls rest) := by
  obtain ⟨hx, hb, -, -, -, hown, hts, hK, -⟩ := hc
  obtain ⟨C, T, ty, h1, h2, h3, h4, h5, h6, h7⟩ := hC
  refine w_hsz fun hle => ?_
  have hH : H.size = E.1.size + k := by have := hG.ge; omega
  have hKn := hK.1.1 ci _ h1
  refine W.newcK hx hb hown (hts _ h4) (hts _ h5) (hts _ h6) rfl hdg hcells hslots hKn.2.1 hH fun H1 kC hkC e1 z1 o1 => ?_
  exact kk H1 (hG.push hH z1 o1 ⟨_, h1, (u_born ty hts h2 hKn hkC e1 h3).to h7⟩)
theorem p_putF (hc : GM E p s m args meth c own cc nL ret) (hin : meth.name = "<init>") (hG : GP E k F H locs) {idx ci i : Nat} (j : Nat) (hj : j < k) {fs fs' : List Value} (hF : F j = .inr (ci, fs)) {v : Value} {t : FieldType} (hf : FQk own idx ci i t) (hn : narrow t v = v) (hfit : fits t v = true) (hl : i < fs.length) (hfs : fs.set i v = fs') (hdg : decode cc pc = .ok (.putfield idx, 3))
    (kk : ∀ (H1 : Heap) (locs1 : List Loc), GP E k (fu F j (.inr (ci, fs'))) H1 locs1 → W p l e R s m args below meth c H1 locs1 cells slots Q (F0 m (pc + 3) ls rest)) : W p l e R s m args below meth c H locs cells slots Q (F0 m pc ls (v :: gR E j :: rest)) := by
  obtain ⟨C, T, N, ty, h1, h2, h3, h4, h5, h6, h7, h8, h9, h10⟩ := hf
  obtain ⟨hx, hb, -, -, -, hown, hts, hK, -⟩ := hc
  refine va_putF (T := T) (N := N) (ci := ci) (fs := fs) hx hb hts h2 ty h3 h4 hown hK.1 hG.1 gl_D hG.2 j (by rw [gl_at hj, hF]) h1 i h5 (hts _ h7) (fun _ h => h) h8 hin h9 h10 hn hfit hl hdg (fun H1 locs1 q1 q2 q3 => ?_)
  rw [gl_set hj, hfs] at q1
  exact kk H1 locs1 ⟨q1, q3⟩
theorem p_put (hc : GM E p s m args meth c own cc nL ret) (hG : GP E k F H locs) {idx ci i : Nat} (j : Nat) (hj : j < k) {fs fs' : List Value} (hF : F j = .inr (ci, fs)) {v : Value} {t : FieldType} (hf : FPk own idx ci i t) (hn : narrow t v = v) (hfit : fits t v = true) (hl : i < fs.length) (hfs : fs.set i v = fs') (hdg : decode cc pc = .ok (.putfield idx, 3))
    (kk : ∀ (H1 : Heap) (locs1 : List Loc), GP E k (fu F j (.inr (ci, fs'))) H1 locs1 → W p l e R s m args below meth c H1 locs1 cells slots Q (F0 m (pc + 3) ls rest)) : W p l e R s m args below meth c H locs cells slots Q (F0 m pc ls (v :: gR E j :: rest)) := by
  obtain ⟨C, T, N, ty, h1, h2, h3, h4, h5, h6, h7, h8, h9⟩ := hf
  obtain ⟨hx, hb, -, -, -, hown, hts, hK, -⟩ := hc
  refine va_put (T := T) (N := N) (ci := ci) (fs := fs) hx hb hts h2 ty h3 h4 hown hK.1 hG.1 gl_D hG.2 j (by rw [gl_at hj, hF]) h1 i h5 (hts _ h7) (fun _ h => h) h8 h9 hn hfit hl hdg (fun H1 locs1 q1 q2 q3 => ?_)
  rw [gl_set hj, hfs] at q1
  exact kk H1 locs1 ⟨q1, q3⟩
theorem p_get (hc : GM E p s m args meth c own cc nL ret) (hG : GP E k F H locs) {idx ci i : Nat} (j : Nat) (hj : j < k) {fs : List Value} (hF : F j = .inr (ci, fs)) {v : Value} (hf : FLk own idx ci i) (hv : fs[i]? = some v) (hdg : decode cc pc = .ok (.getfield idx, 3))
    (kk : W p l e R s m args below meth c H locs cells slots Q (F0 m (pc + 3) ls (v :: rest))) : W p l e R s m args below meth c H locs cells slots Q (F0 m pc ls (gR E j :: rest)) := by
  obtain ⟨C, T, N, ty, h1, h2, h3, h4, h5, h6, h7⟩ := hf
  obtain ⟨hx, hb, -, -, -, hown, hts, hK, -⟩ := hc
  exact va_get (T := T) (N := N) (ci := ci) (fs := fs) hx hb hts h2 hown hK.1 hG.1 j (by rw [gl_at hj, hF]) h1 i h5 (hts _ h7) (fun _ h => h) hv hdg kk
theorem p_getN (hc : GM E p s m args meth c own cc nL ret) (hG : GP E k F H locs) {idx ci i : Nat} (j : Nat) (hj : j < k) {fs : List Value} (hF : F j = .inr (ci, fs)) {v : Value} (hf : FNk own idx ci i) (hv : fs[i]? = some v) (hdg : decode cc pc = .ok (.getfield idx, 3))
    (kk : W p l e R s m args below meth c H locs cells slots Q (F0 m (pc + 3) ls (v :: rest))) : W p l e R s m args below meth c H locs cells slots Q (F0 m pc ls (gR E j :: rest)) := by
  obtain ⟨C, T, N, host, h1, h2, h5, h7⟩ := hf
  obtain ⟨hx, hb, -, -, -, hown, hts, hK, -⟩ := hc
  exact va_getN (T := T) (N := N) (ci := ci) (fs := fs) hx hb hts h2 hown hK.1 hG.1 j (by rw [gl_at hj, hF]) h1 i h5 (va_Nw.use rfl (hK.2.1 _ h7)) (fun _ h => h) hv hdg kk
def pQ (E : GE) (k : Nat) (F : FE) : Array Value → State → Outcome → State → Prop := fun _ _ o t => o = .returned none ∧ GP E k F t.heap []
abbrev pPre (E : GE) (av : List Value) (k : Nat) (F : FE) : Array Value → State → Prop := va_Pc av (fun U => U.heap.size = E.1.size + k ∧ GP E k F U.heap [] ∧ GK E U)
abbrev pMet (l : Launch) (E : GE) (y : MethodName) (cc : ByteArray) (nL : Nat) (rm : Room) (mc ms : Nat) (av : List Value) (k : Nat) (F : FE) (k' : Nat) (F' : FE) : Prop :=
  Met l y (Cond.code y cc nL none :: lw_g) rm (pPre E av k F) (pQ E k' F') mc ms (gF E)
theorem pPre_blind (E : GE) (av : List Value) (k : Nat) (F : FE) : FrameBlind (pPre E av k F) := by
  intro a U g mk h
  exact ⟨h.1, h.2.1, h.2.2.1, GK.vm (s := U) (U := U.calling g mk a) rfl h.2.2.2⟩
theorem p_ran {mc ms k' : Nat} {av : List Value} (hr : va_Run p l e R s m args below meth c H locs cells slots mc ms (F0 m pc ls st0) rest (pQ E k' F' av.toArray) (gF E)) (hG : GP E k F H locs)
    (kk : ∀ (H1 : Heap) (locs1 : List Loc), GP E k' F' H1 locs1 → W p l e R s m args below meth c H1 locs1 (cells + mc) (slots + ms) Q (F0 m (pc + 3) ls rest)) : W p l e R s m args below meth c H locs cells slots Q (F0 m pc ls st0) := by
  intro T hT X
  obtain ⟨w, st₀, t, T', L, h0, X', hL, e1, e2, ⟨hv, hX⟩, st⟩ := hr T hT X
  cases hv
  obtain ⟨t2, a1, b1⟩ := kk T'.heap (locs ++ L) (by
    rw [e1]
    exact ⟨hX.1, hX.2.1, hX.2.2.1, fun q hq => (List.mem_append.mp hq).elim (hG.2.2.2 q) (hL q)⟩) T' rfl X'
  exact ⟨t2, st t2 a1, b1⟩
variable {y : MethodName} {ccy : ByteArray} {nLy n idx mc ms k' : Nat} {rm : Room}
theorem p_callN (hc : GM E p s m args meth c own cc nL ret) (hG : GP E k F H locs) (hz : s.heap.size + cells = E.1.size + k) {As : List Value} {a : Nat} {host : String} (hM : pMet l E y ccy nLy rm mc ms (gR E a :: As) k F k' F') (hl : Cond.methodLinkNest own idx y host ∈ gnestM) (hm : MCk y ccy nLy none n) (hi : Cond.instanceMethod y ∈ lw_g) (hyn : y.name = "<init>") (hn : As.length = n) (hls : ls.size = nL) (hrc : rm.cells = mc) (hrs : rm.slots = ms) (hR : rm.frames + 1 ≤ R.frames ∧ 8 + (nLy + 11) + rm.locals ≤ R.locals) (hw : (rest.map fun v => v.category).sum ≤ 8) (hcs : cells + mc ≤ R.cells ∧ slots + ms ≤ R.slots) (hdg : decode cc pc = .ok (.invokespecial idx, 3)) (hst : st0 = As.reverse ++ gR E a :: rest)
    (kk : ∀ (H1 : Heap) (locs1 : List Loc), GP E k' F' H1 locs1 → W p l e R s m args below meth c H1 locs1 (cells + mc) (slots + ms) Q (F0 m (pc + 3) ls rest)) : W p l e R s m args below meth c H locs cells slots Q (F0 m pc ls st0) := by
  obtain ⟨hx, hb, hml, -, -, hown, hts, hK, -⟩ := hc
  obtain ⟨h1, h2, h3⟩ := hm
  refine w_hsz fun hle => ?_
  have hH : H.size = E.1.size + k := by have := hG.ge; omega
  refine p_ran (av := gR E a :: As) (va_runIN (As := As) (rest := rest) ⟨hx, hb, hml, hown, hts⟩ hM ⟨va_cnB n hts (fun w hw => ?_) rfl hrc hrs (hK.2.1 _ hl) (hts _ h2) h3 hR, hyn, hts _ hi⟩ ⟨pPre_blind E _ k F, fun U hU hW => ⟨rfl, by rw [hU]; exact hH, by rw [hU]; exact hG.nil, hK.moved hW⟩⟩ rfl hn hls hst (by simpa using hw) hdg hcs) hG kk
  rcases List.mem_cons.mp hw with rfl | hw
  · exact lw_g_good _ h1
  · exact lw_g_good _ hw
theorem p_call (hc : GM E p s m args meth c own cc nL ret) (hG : GP E k F H locs) (hz : s.heap.size + cells = E.1.size + k) {As : List Value} {a : Nat} (hM : pMet l E y ccy nLy rm mc ms (gR E a :: As) k F k' F') (hl : Cond.methodLink own idx y ∈ lw_g) (hm : MCk y ccy nLy none n) (hi : Cond.instanceMethod y ∈ lw_g) (hyn : y.name = "<init>") (hn : As.length = n) (hls : ls.size = nL) (hrc : rm.cells = mc) (hrs : rm.slots = ms) (hR : rm.frames + 1 ≤ R.frames ∧ 8 + (nLy + 11) + rm.locals ≤ R.locals) (hw : (rest.map fun v => v.category).sum ≤ 8) (hcs : cells + mc ≤ R.cells ∧ slots + ms ≤ R.slots) (hdg : decode cc pc = .ok (.invokespecial idx, 3)) (hst : st0 = As.reverse ++ gR E a :: rest)
    (kk : ∀ (H1 : Heap) (locs1 : List Loc), GP E k' F' H1 locs1 → W p l e R s m args below meth c H1 locs1 (cells + mc) (slots + ms) Q (F0 m (pc + 3) ls rest)) : W p l e R s m args below meth c H locs cells slots Q (F0 m pc ls st0) := by
  obtain ⟨hx, hb, hml, -, -, hown, hts, hK, -⟩ := hc
  obtain ⟨h1, h2, h3⟩ := hm
  refine w_hsz fun hle => ?_
  have hH : H.size = E.1.size + k := by have := hG.ge; omega
  have hB : CallB R s args own idx y ccy nLy none (Cond.code y ccy nLy none :: lw_g) rm mc ms n := by
    refine callB_of (Ts := lw_g) n hts (fun w hw => ?_) rfl hrc hrs (hts _ h2) (hts _ hl) h3 hR
    rcases List.mem_cons.mp hw with rfl | hw
    · exact lw_g_good _ h1
    · exact lw_g_good _ hw
  exact p_ran (av := gR E a :: As) (va_runI (As := As) (rest := rest) ⟨hx, hb, hml, hown, hts⟩ hM ⟨hB, hyn, hts _ hi⟩ ⟨pPre_blind E _ k F, fun U hU hW => ⟨rfl, by rw [hU]; exact hH, by rw [hU]; exact hG.nil, hK.moved hW⟩⟩ rfl hn hls hst (by simpa using hw) hdg hcs) hG kk
theorem p_ret (hc : GM E p s m args meth c own cc nL none) (hG : GP E k F H locs) (hdg : decode cc pc = .ok (.return_, 1)) : W p l e R s m args below meth c H locs cells slots (MQ below (pQ E k F) args s cells slots (gF E)) (F0 m pc ls []) := by
  obtain ⟨hx, hb, -, hr, hlocks, -⟩ := hc
  exact W.vret hx hb hr (fun t ht _ => ⟨rfl, by rw [ht]; exact hG.nil⟩) hG.2.2.2 hdg
end GGrow
theorem p_met {l : Launch} {E : GE} {y : MethodName} {cc : ByteArray} {nL mc ms k k' : Nat} {rm : Room} {av : List Value} {F F' : FE} {lv : List (Nat × Value)} (hy : plainName y.cls = true) (hyn : y.name = "<init>") (hav : (lg_sl av).length ≤ nL) (hlv : lv_args 0 av = lv)
    (body : ∀ (p : Program) (e : Env) (s : State) (m : MethodId) (below : List Frame) (meth : Method) (c : Code) (H : Heap) (ls : Array Slot), GM E p s m av.toArray meth c y.cls cc nL none → meth.name = "<init>" → s.heap.size = E.1.size + k → GP E k F H [] → lv_has ls nL lv → W p l e rm s m av.toArray below meth c H [] 0 0 (MQ below (pQ E k' F') av.toArray s mc ms (gF E)) (F0 m 0 ls [])) : pMet l E y cc nL rm mc ms av k F k' F' := by
  refine Met.ofW (cc := cc) (maxL := nL) (ret := none) hy rfl ?_
  intro p e s m args below meth c s₁ B hml hv
  obtain ⟨rfl, hsz, hG, hK⟩ := hv
  have hts := atoms_spec (ws := Cond.code y cc nL none :: lw_g) B.pre
  have hown : s.vm.findClass y.cls = some m.cls := findClass_of_methodNamed B.named
  have hin : meth.name = "<init>" := by rw [← hyn]; exact (name_of_methodNamed B.named B.method).1
  have hl := lv_entry av (n := nL) hav
  rw [hlv] at hl
  rw [lg_entry_eq]
  exact body p e s m below meth c s.heap _ ⟨B.exec, B.bytes, hml, B.returns, B.notSynchronized, hown, fun w hw => hts w (List.mem_cons_of_mem _ hw), hK, Decidable.em _⟩ hin hsz hG hl

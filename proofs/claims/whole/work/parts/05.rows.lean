/-! rows over the one world -/
def gnestM : List Cond := lw_tbl.filter fun w => match w with
  | .methodLinkNest _ _ _ _ => true
  | .fieldLinkNest _ _ _ _ _ _ => true
  | _ => false
def gsnL : List Nat := [12, 12, 3, 3, 2, 4, 3, 4, 4, 5, 5, 3, 7, 5, 9, 6, 0, 77]
def gsbL : List (List Int32) := [[110, 111, 32, 115, 117, 99, 104, 32, 67, 65, 83, 69], [110, 111, 32, 115, 117, 99, 104, 32, 119, 104, 97, 116], [110, 111, 116], [97, 110, 100], [111, 114], [114, 97, 110, 107], [111, 119, 110], [115, 97, 109, 101], [108, 97, 110, 100], [115, 101, 97, 116, 115], [118, 111, 116, 101, 115], [97, 103, 101], [100, 111, 117, 98, 116, 101, 100], [98, 105, 110, 100, 115], [111, 118, 101, 114, 114, 117, 108, 101, 115], [100, 111, 117, 98, 116, 115], [], [98, 105, 110, 100, 115, 32, 111, 118, 101, 114, 114, 117, 108, 101, 115, 32, 100, 111, 117, 98, 116, 115, 32, 111, 114, 32, 97, 110, 100, 32, 110, 111, 116, 32, 114, 97, 110, 107, 32, 111, 119, 110, 32, 115, 97, 109, 101, 32, 108, 97, 110, 100, 32, 115, 101, 97, 116, 115, 32, 118, 111, 116, 101, 115, 32, 97, 103, 101, 32, 100, 111, 117, 98, 116, 101, 100, 32]]
def gsoL : List String := ["ReportedCases", "ReportedCases", "ReportedCases$Tokens", "ReportedCases$Tokens", "ReportedCases$Tokens", "ReportedCases$Tokens", "ReportedCases$Tokens", "ReportedCases$Tokens", "ReportedCases$Tokens", "ReportedCases$Tokens", "ReportedCases$Tokens", "ReportedCases$Tokens", "ReportedCases$Tokens", "ReportedCases$Tokens", "ReportedCases$Tokens", "ReportedCases$Tokens", "ReportedCases$Tokens", "ReportedCasesModel"]
def gsxL : List Nat := [208, 226, 70, 72, 74, 76, 78, 80, 82, 84, 86, 88, 90, 92, 94, 96, 98, 150]
def gstL : List String := ["no such CASE", "no such what", "not", "and", "or", "rank", "own", "same", "land", "seats", "votes", "age", "doubted", "binds", "overrules", "doubts", "", "binds overrules doubts or and not rank own same land seats votes age doubted "]
def gsc (i j : Nat) : Int32 := (gsbL.getD i []).getD j 0
def gswL : List Int32 := [1431655765, 858993459, 252645135, 16711935, 65535]
def gsw (i : Int32) : Int32 := gswL.getD i.toNatClampNeg 0
/-- what lies in the heap before the law: the texts, the statics -/
def GZ (E : GE) (U : State) : Prop := vk_S 18 gsnL gsbL E.2.2.2.1 E.2.2.2.2.1 (gA E.1) U E.1 ∧ (∀ i, i < 18 → vk_R (gsoL.getD i "") (gsxL.getD i 0) (gstL.getD i "") (E.2.2.2.1 i) U) ∧ va_Z "java/lang/String" "COMPACT_STRINGS" "Z" (.int 1) (gA E.1) U E.1 ∧ va_Zq "jdk/internal/util/Preconditions" "SIOOBE_FORMATTER" "Ljava/util/function/BiFunction;" (gA E.1) U E.1 ∧ va_Z "ReportedCases" "SETS_WITHOUT" "[I" (.ref E.2.2.2.2.2) (gA E.1) U E.1 ∧ va_T .int E.2.2.2.2.2 5 (fun j => .int (gswL.getD j 0)) (gA E.1) U E.1
theorem GZ.moved {E : GE} {s U : State} (hW : s.WarmedH U.vm) (h : GZ E s) : GZ E U :=
  ⟨vk_S.moved hW.alike h.1, fun i hi => vk_R.warm hW (h.2.1 i hi), va_Z.moved hW.alike h.2.2.1, va_Zq.moved hW.alike h.2.2.2.1, va_Z.moved hW.alike h.2.2.2.2.1, va_T.moved hW.alike h.2.2.2.2.2⟩
theorem GZ.vm {E : GE} {s U : State} (hv : s.vm = U.vm) (h : GZ E s) : GZ E U := by
  have ha : s.vm.Alike U.vm := by rw [hv]; exact Vm.Alike.refl _
  exact ⟨vk_S.moved ha h.1, fun i hi => vk_R.same hv.symm (h.2.1 i hi), va_Z.moved ha h.2.2.1, va_Zq.moved ha h.2.2.2.1, va_Z.moved ha h.2.2.2.2.1, va_T.moved ha h.2.2.2.2.2⟩
def GK (E : GE) (U : State) : Prop := va_K E.2.1 vwCl (gtys E.2.2.1) U ∧ (∀ w ∈ gnestM, va_Nw w U) ∧ GZ E U
theorem GK.moved {E : GE} {s U : State} (hW : s.WarmedH U.vm) (h : GK E s) : GK E U := by
  refine ⟨va_K.moved hW.alike h.1, fun w hw => ?_, h.2.2.moved hW⟩
  have h1 := h.2.1 w hw
  have h2 := (List.mem_filter.mp hw).2
  cases w with
  | methodLinkNest a i x hh => exact va_Nw.warmM hW h1
  | fieldLinkNest a i b n d hh => exact va_Nw.warmF hW h1
  | _ => cases h2
theorem GK.vm {E : GE} {s U : State} (hv : s.vm = U.vm) (h : GK E s) : GK E U := by
  refine ⟨va_K.moved (by rw [hv]; exact Vm.Alike.refl _) h.1, fun w hw => ?_, h.2.2.vm hv⟩
  have h1 := h.2.1 w hw
  have h2 := (List.mem_filter.mp hw).2
  cases w with
  | methodLinkNest a i x hh => exact va_Nw.same rfl hv h1
  | fieldLinkNest a i b n d hh => exact va_Nw.same rfl hv h1
  | _ => cases h2
/-- what holds in the body of a method: its own class, code, number of locals, return type -/
def GM (E : GE) (p : Program) (s : State) (m : MethodId) (args : Array Value) (meth : Method) (c : Code) (own : String) (cc : ByteArray) (nL : Nat) (ret : Option FieldType) : Prop :=
  p.tables.exec = Jvm.exec ∧ c.code = cc ∧ c.maxLocals = nL ∧ meth.sig.returnType = ret ∧ meth.locks = false ∧ s.vm.findClass own = some m.cls ∧ (∀ w ∈ lw_g, w.before args s = true) ∧ GK E s ∧ (ret = none ∨ ret ≠ none)
/-- a field by its pool number: class ci, place j -/
def FLk (own : String) (idx ci j : Nat) : Prop := ∃ (C : String) (T : u_T) (N : Nat) (ty : Nat → FieldType), vwCl[ci]? = some (C, T, N) ∧ (∀ w ∈ u_ws C T N, w ∈ lw_g) ∧ (∀ k, k < N → parseFieldDescriptor (T k).2.2.1 = some (ty k)) ∧ (∀ a, a < N → ∀ b, b < N → a ≠ b → (T a).2.1 ≠ (T b).2.1) ∧ j < N ∧ N = gcn ci ∧ Cond.fieldLink own idx (T j).1 (T j).2.1 (T j).2.2.1 ∈ lw_g
def FPk (own : String) (idx ci j : Nat) (t : FieldType) : Prop := ∃ (C : String) (T : u_T) (N : Nat) (ty : Nat → FieldType), vwCl[ci]? = some (C, T, N) ∧ (∀ w ∈ u_ws C T N, w ∈ lw_g) ∧ (∀ k, k < N → parseFieldDescriptor (T k).2.2.1 = some (ty k)) ∧ (∀ a, a < N → ∀ b, b < N → a ≠ b → (T a).2.1 ≠ (T b).2.1) ∧ j < N ∧ N = gcn ci ∧ Cond.fieldLink own idx (T j).1 (T j).2.1 (T j).2.2.1 ∈ lw_g ∧ (T j).2.2.2 = false ∧ parseFieldDescriptor (T j).2.2.1 = some t
theorem gcl_lt {ci : Nat} {q : vw_C} (h : vwCl[ci]? = some q) : ci < 12 := (List.getElem?_eq_some_iff.mp h).1
section GRows
variable {p : Program} {l : Launch} {e : Env} {R : Room} {s : State} {m : MethodId} {args : Array Value} {below : List Frame} {meth : Method} {c : Code} {H : Heap} {locs : List Loc} {cells slots : Nat} {Q : State → Prop}
variable {E : GE} {S : GS} {own : String} {cc : ByteArray} {nL pc : Nat} {ret : Option FieldType} {ls : Array Slot} {rest : List Value}
theorem g_getI (hc : GM E p s m args meth c own cc nL ret) (hG : GX E S H locs) {idx ci j : Nat} (k : Nat) (hf : FLk own idx ci j) (hk : gk k = ci) (h0 : gct ci j = 0) (hdg : decode cc pc = .ok (.getfield idx, 3))
    (kk : W p l e R s m args below meth c H locs cells slots Q (F0 m (pc + 3) ls (.int (S.1 k j) :: rest))) : W p l e R s m args below meth c H locs cells slots Q (F0 m pc ls (gR E k :: rest)) := by
  obtain ⟨C, T, N, ty, h1, h2, h3, h4, h5, h6, h7⟩ := hf
  obtain ⟨hx, hb, -, -, -, hown, hts, hK, -⟩ := hc
  have hci := gcl_lt h1
  have hkl : k < 88 := gk_lt hk (by omega)
  refine va_get (T := T) (N := N) (ci := ci) (fs := (List.range (gcn ci)).map (gv E.1.size S k)) hx hb hts h2 hown hK.1 hG.1 k (by rw [gws_at hkl, ge_o hk hci]) h1 j h5 (hts _ h7) (fun _ h => h) (v := .int (S.1 k j)) ?_ hdg kk
  rw [List.getElem?_map, List.getElem?_range (by omega)]
  simp only [Option.map_some]
  unfold gv
  rw [if_pos ((gk_int k hkl (by omega) j (by rw [hk]; omega)).mp (by rw [hk]; exact h0))]
theorem g_getR (hc : GM E p s m args meth c own cc nL ret) (hG : GX E S H locs) {idx ci j : Nat} (k t : Nat) (hf : FLk own idx ci j) (hk : gk k = ci) (h0 : gct ci j = 1) (ht : gr S.2.2 k j = t) (hdg : decode cc pc = .ok (.getfield idx, 3))
    (kk : W p l e R s m args below meth c H locs cells slots Q (F0 m (pc + 3) ls (gR E t :: rest))) : W p l e R s m args below meth c H locs cells slots Q (F0 m pc ls (gR E k :: rest)) := by
  obtain ⟨C, T, N, ty, h1, h2, h3, h4, h5, h6, h7⟩ := hf
  obtain ⟨hx, hb, -, -, -, hown, hts, hK, -⟩ := hc
  have hci := gcl_lt h1
  have hkl : k < 88 := gk_lt hk (by omega)
  refine va_get (T := T) (N := N) (ci := ci) (fs := (List.range (gcn ci)).map (gv E.1.size S k)) hx hb hts h2 hown hK.1 hG.1 k (by rw [gws_at hkl, ge_o hk hci]) h1 j h5 (hts _ h7) (fun _ h => h) (v := gR E t) ?_ hdg kk
  rw [List.getElem?_map, List.getElem?_range (by omega)]
  simp only [Option.map_some]
  unfold gv
  rw [if_neg (fun q => by have := (gk_int k hkl (by omega) j (by rw [hk]; omega)).mpr q; rw [hk] at this; omega), ht]
theorem g_putI (hc : GM E p s m args meth c own cc nL ret) (hG : GX E S H locs) {idx ci j : Nat} (k : Nat) {x : Int32} {t : FieldType} (hf : FPk own idx ci j t) (hn : narrow t (.int x) = .int x) (hfit : fits t (.int x) = true) (hk : gk k = ci) (h0 : gct ci j = 0) (hdg : decode cc pc = .ok (.putfield idx, 3))
    (kk : ∀ (S1 : GS) (H1 : Heap) (locs1 : List Loc), S1 = gsi S k j x → GX E S1 H1 locs1 → W p l e R s m args below meth c H1 locs1 cells slots Q (F0 m (pc + 3) ls rest)) : W p l e R s m args below meth c H locs cells slots Q (F0 m pc ls (.int x :: gR E k :: rest)) := by
  obtain ⟨C, T, N, ty, h1, h2, h3, h4, h5, h6, h7, h8, h9⟩ := hf
  obtain ⟨hx, hb, -, -, -, hown, hts, hK, -⟩ := hc
  have hci := gcl_lt h1
  have hkl : k < 88 := gk_lt hk (by omega)
  have hz := (gk_int k hkl (by omega) j (by rw [hk]; omega)).mp (by rw [hk]; exact h0)
  refine va_put (T := T) (N := N) (ci := ci) (fs := (List.range (gcn ci)).map (gv E.1.size S k)) hx hb hts h2 ty h3 h4 hown hK.1 hG.1 gws_D hG.2 k (by rw [gws_at hkl, ge_o hk hci]) h1 j h5 (hts _ h7) (fun _ h => h) h8 h9 hn hfit (by simp; omega) hdg (fun H1 locs1 q1 q2 q3 => ?_)
  rw [gws_seti hk hci hz] at q1
  exact kk _ H1 locs1 rfl ⟨q1, q3⟩
theorem g_putR (hc : GM E p s m args meth c own cc nL ret) (hG : GX E S H locs) {idx ci j : Nat} (k i t : Nat) {ty : FieldType} (hf : FPk own idx ci j ty) (hn : ∀ a, narrow ty (.ref a) = .ref a) (hfit : ∀ a, fits ty (.ref a) = true) (hk : gk k = ci) (h0 : gfc k j = 1000 + i) (h9 : ∀ a, a < 88 → gk a < 12 → ∀ b, b < gcn (gk a) → gfc a b = 1000 + i → a = k ∧ b = j) (hdg : decode cc pc = .ok (.putfield idx, 3))
    (kk : ∀ (S1 : GS) (H1 : Heap) (locs1 : List Loc), S1 = gsq S i t → GX E S1 H1 locs1 → W p l e R s m args below meth c H1 locs1 cells slots Q (F0 m (pc + 3) ls rest)) : W p l e R s m args below meth c H locs cells slots Q (F0 m pc ls (gR E t :: gR E k :: rest)) := by
  obtain ⟨C, T, N, ty, h1, h2, h3, h4, h5, h6, h7, h8, h10⟩ := hf
  obtain ⟨hx, hb, -, -, -, hown, hts, hK, -⟩ := hc
  have hci := gcl_lt h1
  have hkl : k < 88 := gk_lt hk (by omega)
  refine va_put (T := T) (N := N) (ci := ci) (fs := (List.range (gcn ci)).map (gv E.1.size S k)) hx hb hts h2 ty h3 h4 hown hK.1 hG.1 gws_D hG.2 k (by rw [gws_at hkl, ge_o hk hci]) h1 j h5 (hts _ h7) (fun _ h => h) h8 h10 (hn _) (hfit _) (by simp; omega) hdg (fun H1 locs1 q1 q2 q3 => ?_)
  rw [gws_setq hk hci h0 h9] at q1
  exact kk _ H1 locs1 rfl ⟨q1, q3⟩
theorem g_iald (hc : GM E p s m args meth c own cc nL ret) (hG : GX E S H locs) (k n j : Nat) (hk : gk k = 12) (hn : gn k = n) {i : Int32} (hin : gib i n = true) (hj : i.toNatClampNeg = j) (hdg : decode cc pc = .ok (.iaload, 1))
    (kk : W p l e R s m args below meth c H locs cells slots Q (F0 m (pc + 1) ls (.int (S.1 k j) :: rest))) : W p l e R s m args below meth c H locs cells slots Q (F0 m pc ls (.int i :: gR E k :: rest)) := by
  obtain ⟨hx, hb, -, -, -, hown, hts, hK, -⟩ := hc
  subst hn
  subst hj
  exact va_iald hx hb hK.1 hG.1 k 0 (by rw [gws_at (gk_lt hk (by omega)), ge_i hk]) rfl (gib_in hin) hdg kk
theorem g_bald (hc : GM E p s m args meth c own cc nL ret) (hG : GX E S H locs) (k n j : Nat) (hk : gk k = 13) (hn : gn k = n) {i : Int32} (hin : gib i n = true) (hj : i.toNatClampNeg = j) (hdg : decode cc pc = .ok (.baload, 1))
    (kk : W p l e R s m args below meth c H locs cells slots Q (F0 m (pc + 1) ls (.int (S.1 k j) :: rest))) : W p l e R s m args below meth c H locs cells slots Q (F0 m pc ls (.int i :: gR E k :: rest)) := by
  obtain ⟨hx, hb, -, -, -, hown, hts, hK, -⟩ := hc
  subst hn
  subst hj
  exact va_bald hx hb hK.1 hG.1 k 1 (by rw [gws_at (gk_lt hk (by omega)), ge_b hk]) rfl (gib_in hin) hdg kk
theorem g_zald (hc : GM E p s m args meth c own cc nL ret) (hG : GX E S H locs) (k n j : Nat) (hk : gk k = 14) (hn : gn k = n) {i : Int32} (hin : gib i n = true) (hj : i.toNatClampNeg = j) (hdg : decode cc pc = .ok (.baload, 1))
    (kk : W p l e R s m args below meth c H locs cells slots Q (F0 m (pc + 1) ls (.int (S.1 k j) :: rest))) : W p l e R s m args below meth c H locs cells slots Q (F0 m pc ls (.int i :: gR E k :: rest)) := by
  obtain ⟨hx, hb, -, -, -, hown, hts, hK, -⟩ := hc
  subst hn
  subst hj
  exact va_zald hx hb hK.1 hG.1 k 2 (by rw [gws_at (gk_lt hk (by omega)), ge_z hk]) rfl (gib_in hin) hdg kk
theorem g_lald (hc : GM E p s m args meth c own cc nL ret) (hG : GX E S H locs) (k n j : Nat) (hk : gk k = 15) (hn : gn k = n) {i : Int32} (hin : gib i n = true) (hj : i.toNatClampNeg = j) (hdg : decode cc pc = .ok (.laload, 1))
    (kk : W p l e R s m args below meth c H locs cells slots Q (F0 m (pc + 1) ls (.long (S.2.1 k j) :: rest))) : W p l e R s m args below meth c H locs cells slots Q (F0 m pc ls (.int i :: gR E k :: rest)) := by
  obtain ⟨hx, hb, -, -, -, hown, hts, hK, -⟩ := hc
  subst hn
  subst hj
  exact va_lald hx hb hK.1 hG.1 k 3 (by rw [gws_at (gk_lt hk (by omega)), ge_j hk]) rfl (gib_in hin) hdg kk
theorem g_iast (hc : GM E p s m args meth c own cc nL ret) (hG : GX E S H locs) (k n j : Nat) (hk : gk k = 12) (hn : gn k = n) {i x : Int32} (hin : gib i n = true) (hj : i.toNatClampNeg = j) (hdg : decode cc pc = .ok (.iastore, 1))
    (kk : ∀ (S1 : GS) (H1 : Heap) (locs1 : List Loc), S1 = gsi S k j x → GX E S1 H1 locs1 → W p l e R s m args below meth c H1 locs1 cells slots Q (F0 m (pc + 1) ls rest)) : W p l e R s m args below meth c H locs cells slots Q (F0 m pc ls (.int x :: .int i :: gR E k :: rest)) := by
  obtain ⟨hx, hb, -, -, -, hown, hts, hK, -⟩ := hc
  subst hn
  subst hj
  refine va_iast hx hb hK.1 hG.1 gws_D hG.2 k 0 (by rw [gws_at (gk_lt hk (by omega)), ge_i hk]) rfl (gib_in hin) hdg (fun H1 locs1 q1 q2 q3 => ?_)
  rw [gws_seta (t := 12) hk (by omega) (fun S' => ge_i hk)] at q1
  exact kk _ H1 locs1 rfl ⟨q1, q3⟩
theorem g_bast (hc : GM E p s m args meth c own cc nL ret) (hG : GX E S H locs) (k n j : Nat) (hk : gk k = 13) (hn : gn k = n) {i x : Int32} (hin : gib i n = true) (hj : i.toNatClampNeg = j) (hdg : decode cc pc = .ok (.bastore, 1))
    (kk : ∀ (S1 : GS) (H1 : Heap) (locs1 : List Loc), S1 = gsi S k j (vp_nar .byte x) → GX E S1 H1 locs1 → W p l e R s m args below meth c H1 locs1 cells slots Q (F0 m (pc + 1) ls rest)) : W p l e R s m args below meth c H locs cells slots Q (F0 m pc ls (.int x :: .int i :: gR E k :: rest)) := by
  obtain ⟨hx, hb, -, -, -, hown, hts, hK, -⟩ := hc
  subst hn
  subst hj
  refine va_bast hx hb hK.1 hG.1 gws_D hG.2 k 1 (by rw [gws_at (gk_lt hk (by omega)), ge_b hk]) rfl (gib_in hin) hdg (fun H1 locs1 q1 q2 q3 => ?_)
  rw [gws_seta (t := 13) hk (by omega) (fun S' => ge_b hk)] at q1
  exact kk _ H1 locs1 rfl ⟨q1, q3⟩
theorem g_zast (hc : GM E p s m args meth c own cc nL ret) (hG : GX E S H locs) (k n j : Nat) (hk : gk k = 14) (hn : gn k = n) {i x : Int32} (hin : gib i n = true) (hj : i.toNatClampNeg = j) (hdg : decode cc pc = .ok (.bastore, 1))
    (kk : ∀ (S1 : GS) (H1 : Heap) (locs1 : List Loc), S1 = gsi S k j (vp_nar .boolean x) → GX E S1 H1 locs1 → W p l e R s m args below meth c H1 locs1 cells slots Q (F0 m (pc + 1) ls rest)) : W p l e R s m args below meth c H locs cells slots Q (F0 m pc ls (.int x :: .int i :: gR E k :: rest)) := by
  obtain ⟨hx, hb, -, -, -, hown, hts, hK, -⟩ := hc
  subst hn
  subst hj
  refine va_zast hx hb hK.1 hG.1 gws_D hG.2 k 2 (by rw [gws_at (gk_lt hk (by omega)), ge_z hk]) rfl (gib_in hin) hdg (fun H1 locs1 q1 q2 q3 => ?_)
  rw [gws_seta (t := 14) hk (by omega) (fun S' => ge_z hk)] at q1
  exact kk _ H1 locs1 rfl ⟨q1, q3⟩
theorem g_last (hc : GM E p s m args meth c own cc nL ret) (hG : GX E S H locs) (k n j : Nat) (hk : gk k = 15) (hn : gn k = n) {i : Int32} {x : Int64} (hin : gib i n = true) (hj : i.toNatClampNeg = j) (hdg : decode cc pc = .ok (.lastore, 1))
    (kk : ∀ (S1 : GS) (H1 : Heap) (locs1 : List Loc), S1 = gsl S k j x → GX E S1 H1 locs1 → W p l e R s m args below meth c H1 locs1 cells slots Q (F0 m (pc + 1) ls rest)) : W p l e R s m args below meth c H locs cells slots Q (F0 m pc ls (.long x :: .int i :: gR E k :: rest)) := by
  obtain ⟨hx, hb, -, -, -, hown, hts, hK, -⟩ := hc
  subst hn
  subst hj
  refine va_last hx hb hK.1 hG.1 gws_D hG.2 k 3 (by rw [gws_at (gk_lt hk (by omega)), ge_j hk]) rfl (gib_in hin) hdg (fun H1 locs1 q1 q2 q3 => ?_)
  rw [gws_setl hk] at q1
  exact kk _ H1 locs1 rfl ⟨q1, q3⟩
theorem g_alen (hc : GM E p s m args meth c own cc nL ret) (hG : GX E S H locs) (k : Nat) (hk : 12 ≤ gk k ∧ gk k < 16) {v : Int32} (hv : Int32.ofNat (gn k) = v) (hdg : decode cc pc = .ok (.arraylength, 1))
    (kk : W p l e R s m args below meth c H locs cells slots Q (F0 m (pc + 1) ls (.int v :: rest))) : W p l e R s m args below meth c H locs cells slots Q (F0 m pc ls (gR E k :: rest)) := by
  obtain ⟨hx, hb, -, -, -, hown, hts, hK, -⟩ := hc
  have hkl : k < 88 := gk_lt (k := k) rfl (by omega)
  rcases (show gk k = 12 ∨ gk k = 13 ∨ gk k = 14 ∨ gk k = 15 by omega) with q | q | q | q
  · exact va_alen hx hb hK.1 hG.1 k 0 (by rw [gws_at hkl, ge_i q]) rfl hv hdg kk
  · exact va_alen hx hb hK.1 hG.1 k 1 (by rw [gws_at hkl, ge_b q]) rfl hv hdg kk
  · exact va_alen hx hb hK.1 hG.1 k 2 (by rw [gws_at hkl, ge_z q]) rfl hv hdg kk
  · exact va_alen hx hb hK.1 hG.1 k 3 (by rw [gws_at hkl, ge_j q]) rfl hv hdg kk
end GRows
abbrev gF (E : GE) : Addr → Prop := fun q => E.1.size ≤ q
/-- a contract's end: the answer, and the world -/
def gQ (E : GE) (v : Option Value) (S : GS) : Array Value → State → Outcome → State → Prop := fun _ _ o t => o = .returned v ∧ GX E S t.heap []
abbrev gPre (E : GE) (av : List Value) (S : GS) : Array Value → State → Prop := va_Pc av (fun U => GX E S U.heap [] ∧ GK E U)
abbrev gMet (l : Launch) (E : GE) (y : MethodName) (cc : ByteArray) (nL : Nat) (ret : Option FieldType) (rm : Room) (av : List Value) (S : GS) (v : Option Value) (S' : GS) : Prop :=
  Met l y (Cond.code y cc nL ret :: lw_g) rm (gPre E av S) (gQ E v S') 0 0 (gF E)
def MCk (y : MethodName) (cc : ByteArray) (nL : Nat) (ret : Option FieldType) (n : Nat) : Prop := Cond.code y cc nL ret ∈ lw_g ∧ Cond.initialized y.cls ∈ lw_g ∧ (y.cls ≠ "java/lang/invoke/MethodHandle" ∧ y.cls ≠ "java/lang/invoke/VarHandle" ∧ (parseMethodDescriptor y.desc).map (fun d => d.parameters.length) = some n)
def MIk (y : MethodName) : Prop := Cond.instanceMethod y ∈ lw_g ∧ Cond.selects y.cls y y ∈ lw_g
theorem GX.nil {E : GE} {S : GS} {H : Heap} {locs : List Loc} (h : GX E S H locs) : GX E S H [] := ⟨h.1, h.2.1, h.2.2.1, fun _ q => by cases q⟩
theorem gPre_blind (E : GE) (av : List Value) (S : GS) : FrameBlind (gPre E av S) := by
  intro a U g mk h
  exact ⟨h.1, h.2.1, GK.vm (s := U) (U := U.calling g mk a) rfl h.2.2⟩
section GCalls
variable {p : Program} {l : Launch} {e : Env} {R : Room} {s : State} {m : MethodId} {args : Array Value} {below : List Frame} {meth : Method} {c : Code} {H : Heap} {locs : List Loc} {cells slots : Nat} {Q : State → Prop}
variable {E : GE} {S S' : GS} {own : String} {cc : ByteArray} {nL pc : Nat} {ret : Option FieldType} {ls : Array Slot} {rest st0 : List Value}
variable {y : MethodName} {ccy : ByteArray} {nLy n idx : Nat} {rety : Option FieldType} {rm : Room} {v : Option Value}
theorem g_ran {av : List Value} (hr : va_Run p l e R s m args below meth c H locs cells slots 0 0 (F0 m pc ls st0) rest (gQ E v S' av.toArray) (gF E)) (hG : GX E S H locs)
    (kk : ∀ (H1 : Heap) (locs1 : List Loc), GX E S' H1 locs1 → W p l e R s m args below meth c H1 locs1 cells slots Q (F0 m (pc + 3) ls (v.toList ++ rest))) : W p l e R s m args below meth c H locs cells slots Q (F0 m pc ls st0) := by
  intro T hT X
  obtain ⟨w, st₀, t, T', L, h0, X', hL, e1, e2, ⟨hv, hX⟩, st⟩ := hr T hT X
  cases hv
  obtain ⟨t2, a1, b1⟩ := kk T'.heap (locs ++ L) (by
    rw [e1]
    exact ⟨hX.1, hX.2.1, hX.2.2.1, fun q hq => (List.mem_append.mp hq).elim (hG.2.2.2 q) (hL q)⟩) T' rfl X'
  exact ⟨t2, st t2 a1, b1⟩
theorem g_callB (hc : GM E p s m args meth c own cc nL ret) (hl : Cond.methodLink own idx y ∈ lw_g) (hm : MCk y ccy nLy rety n) (hrc : rm.cells = 0) (hrs : rm.slots = 0) (hR : rm.frames + 1 ≤ R.frames ∧ 8 + (nLy + 11) + rm.locals ≤ R.locals) : CallB R s args own idx y ccy nLy rety (Cond.code y ccy nLy rety :: lw_g) rm 0 0 n := by
  obtain ⟨hx, hb, hml, -, -, hown, hts, hK, -⟩ := hc
  obtain ⟨h1, h2, h3⟩ := hm
  refine callB_of (Ts := lw_g) n hts (fun w hw => ?_) rfl hrc hrs (hts _ h2) (hts _ hl) h3 hR
  rcases List.mem_cons.mp hw with rfl | hw
  · exact lw_g_good _ h1
  · exact lw_g_good _ hw
theorem g_callV (hc : GM E p s m args meth c own cc nL ret) (hG : GX E S H locs) {k ci : Nat} {As : List Value} {q : vw_C} (hM : gMet l E y ccy nLy rety rm (gR E k :: As) S v S') (hl : Cond.methodLink own idx y ∈ lw_g) (hm : MCk y ccy nLy rety n) (hi : MIk y) (hk : gk k = ci) (hq : vwCl[ci]? = some q) (hqn : q.1 = y.cls) (hn : As.length = n) (hls : ls.size = nL) (hrc : rm.cells = 0) (hrs : rm.slots = 0) (hR : rm.frames + 1 ≤ R.frames ∧ 8 + (nLy + 11) + rm.locals ≤ R.locals) (hw : (rest.map fun v => v.category).sum ≤ 8) (hcs : cells ≤ R.cells ∧ slots ≤ R.slots) (hdg : decode cc pc = .ok (.invokevirtual idx, 3)) (hst : st0 = As.reverse ++ gR E k :: rest)
    (kk : ∀ (H1 : Heap) (locs1 : List Loc), GX E S' H1 locs1 → W p l e R s m args below meth c H1 locs1 cells slots Q (F0 m (pc + 3) ls (v.toList ++ rest))) : W p l e R s m args below meth c H locs cells slots Q (F0 m pc ls st0) := by
  have hB := g_callB (R := R) hc hl hm hrc hrs hR
  obtain ⟨hx, hb, hml, -, -, hown, hts, hK, -⟩ := hc
  have hci := gcl_lt hq
  have hkl : k < 88 := gk_lt hk (by omega)
  refine g_ran (av := gR E k :: As) (va_runV (C := y.cls) (As := As) (rest := rest) ⟨hx, hb, hml, hown, hts⟩ hM ⟨hB, hts _ hi.1, hts _ hi.2⟩ ⟨gPre_blind E _ S, ?_, fun U hU hW => ⟨rfl, by rw [hU]; exact hG.nil, hK.moved hW⟩⟩ rfl hn hls hst (by simpa using hw) hdg hcs) hG kk
  rw [← hqn]
  exact va_recv hK.1 hG.1 hq (show (gws _ _ _)[k]? = some (_, .inr (ci, _)) by rw [gws_at hkl, ge_o hk hci])
theorem g_callS (hc : GM E p s m args meth c own cc nL ret) (hG : GX E S H locs) {As : List Value} (hM : gMet l E y ccy nLy rety rm As S v S') (hl : Cond.methodLink own idx y ∈ lw_g) (hm : MCk y ccy nLy rety n) (hi : Cond.static y ∈ lw_g) (hn : As.length = n) (hls : ls.size = nL) (hrc : rm.cells = 0) (hrs : rm.slots = 0) (hR : rm.frames + 1 ≤ R.frames ∧ 8 + (nLy + 11) + rm.locals ≤ R.locals) (hw : (rest.map fun v => v.category).sum ≤ 8) (hcs : cells ≤ R.cells ∧ slots ≤ R.slots) (hdg : decode cc pc = .ok (.invokestatic idx, 3)) (hst : st0 = As.reverse ++ rest)
    (kk : ∀ (H1 : Heap) (locs1 : List Loc), GX E S' H1 locs1 → W p l e R s m args below meth c H1 locs1 cells slots Q (F0 m (pc + 3) ls (v.toList ++ rest))) : W p l e R s m args below meth c H locs cells slots Q (F0 m pc ls st0) := by
  have hB := g_callB (R := R) hc hl hm hrc hrs hR
  obtain ⟨hx, hb, hml, -, -, hown, hts, hK, -⟩ := hc
  exact g_ran (av := As) (va_runS (As := As) (rest := rest) ⟨hx, hb, hml, hown, hts⟩ hM ⟨hB, hts _ hi⟩ ⟨gPre_blind E _ S, fun U hU hW => ⟨rfl, by rw [hU]; exact hG.nil, hK.moved hW⟩⟩ rfl hn hls hst (by simpa using hw) hdg hcs) hG kk
theorem g_callSN (hc : GM E p s m args meth c own cc nL ret) (hG : GX E S H locs) {As : List Value} {host : String} (hM : gMet l E y ccy nLy rety rm As S v S') (hl : Cond.methodLinkNest own idx y host ∈ gnestM) (hm : MCk y ccy nLy rety n) (hi : Cond.static y ∈ lw_g) (hn : As.length = n) (hls : ls.size = nL) (hrc : rm.cells = 0) (hrs : rm.slots = 0) (hR : rm.frames + 1 ≤ R.frames ∧ 8 + (nLy + 11) + rm.locals ≤ R.locals) (hw : (rest.map fun v => v.category).sum ≤ 8) (hcs : cells ≤ R.cells ∧ slots ≤ R.slots) (hdg : decode cc pc = .ok (.invokestatic idx, 3)) (hst : st0 = As.reverse ++ rest)
    (kk : ∀ (H1 : Heap) (locs1 : List Loc), GX E S' H1 locs1 → W p l e R s m args below meth c H1 locs1 cells slots Q (F0 m (pc + 3) ls (v.toList ++ rest))) : W p l e R s m args below meth c H locs cells slots Q (F0 m pc ls st0) := by
  obtain ⟨hx, hb, hml, -, -, hown, hts, hK, -⟩ := hc
  obtain ⟨h1, h2, h3⟩ := hm
  refine g_ran (av := As) (va_runSN (As := As) (rest := rest) ⟨hx, hb, hml, hown, hts⟩ hM ⟨va_cnB n hts (fun w hw => ?_) rfl hrc hrs (hK.2.1 _ hl) (hts _ h2) h3 hR, hts _ hi, trivial⟩ ⟨gPre_blind E _ S, fun U hU hW => ⟨rfl, by rw [hU]; exact hG.nil, hK.moved hW⟩⟩ rfl hn hls hst (by simpa using hw) hdg hcs) hG kk
  rcases List.mem_cons.mp hw with rfl | hw
  · exact lw_g_good _ h1
  · exact lw_g_good _ hw
theorem g_callVi {r : Int32} (hc : GM E p s m args meth c own cc nL ret) (hG : GX E S H locs) {k ci : Nat} {As : List Value} {q : vw_C} (hM : gMet l E y ccy nLy rety rm (gR E k :: As) S (some (.int r)) S') (hl : Cond.methodLink own idx y ∈ lw_g) (hm : MCk y ccy nLy rety n) (hi : MIk y) (hk : gk k = ci) (hq : vwCl[ci]? = some q) (hqn : q.1 = y.cls) (hn : As.length = n) (hls : ls.size = nL) (hrc : rm.cells = 0) (hrs : rm.slots = 0) (hR : rm.frames + 1 ≤ R.frames ∧ 8 + (nLy + 11) + rm.locals ≤ R.locals) (hw : (rest.map fun v => v.category).sum ≤ 8) (hcs : cells ≤ R.cells ∧ slots ≤ R.slots) (hdg : decode cc pc = .ok (.invokevirtual idx, 3)) (hst : st0 = As.reverse ++ gR E k :: rest)
    (kk : ∀ (H1 : Heap) (locs1 : List Loc), GX E S' H1 locs1 → W p l e R s m args below meth c H1 locs1 cells slots Q (F0 m (pc + 3) ls (.int r :: rest))) : W p l e R s m args below meth c H locs cells slots Q (F0 m pc ls st0) := g_callV hc hG hM hl hm hi hk hq hqn hn hls hrc hrs hR hw hcs hdg hst kk
theorem g_callVl {r : Int64} (hc : GM E p s m args meth c own cc nL ret) (hG : GX E S H locs) {k ci : Nat} {As : List Value} {q : vw_C} (hM : gMet l E y ccy nLy rety rm (gR E k :: As) S (some (.long r)) S') (hl : Cond.methodLink own idx y ∈ lw_g) (hm : MCk y ccy nLy rety n) (hi : MIk y) (hk : gk k = ci) (hq : vwCl[ci]? = some q) (hqn : q.1 = y.cls) (hn : As.length = n) (hls : ls.size = nL) (hrc : rm.cells = 0) (hrs : rm.slots = 0) (hR : rm.frames + 1 ≤ R.frames ∧ 8 + (nLy + 11) + rm.locals ≤ R.locals) (hw : (rest.map fun v => v.category).sum ≤ 8) (hcs : cells ≤ R.cells ∧ slots ≤ R.slots) (hdg : decode cc pc = .ok (.invokevirtual idx, 3)) (hst : st0 = As.reverse ++ gR E k :: rest)
    (kk : ∀ (H1 : Heap) (locs1 : List Loc), GX E S' H1 locs1 → W p l e R s m args below meth c H1 locs1 cells slots Q (F0 m (pc + 3) ls (.long r :: rest))) : W p l e R s m args below meth c H locs cells slots Q (F0 m pc ls st0) := g_callV hc hG hM hl hm hi hk hq hqn hn hls hrc hrs hR hw hcs hdg hst kk
theorem g_callVv (hc : GM E p s m args meth c own cc nL ret) (hG : GX E S H locs) {k ci : Nat} {As : List Value} {q : vw_C} (hM : gMet l E y ccy nLy rety rm (gR E k :: As) S none S') (hl : Cond.methodLink own idx y ∈ lw_g) (hm : MCk y ccy nLy rety n) (hi : MIk y) (hk : gk k = ci) (hq : vwCl[ci]? = some q) (hqn : q.1 = y.cls) (hn : As.length = n) (hls : ls.size = nL) (hrc : rm.cells = 0) (hrs : rm.slots = 0) (hR : rm.frames + 1 ≤ R.frames ∧ 8 + (nLy + 11) + rm.locals ≤ R.locals) (hw : (rest.map fun v => v.category).sum ≤ 8) (hcs : cells ≤ R.cells ∧ slots ≤ R.slots) (hdg : decode cc pc = .ok (.invokevirtual idx, 3)) (hst : st0 = As.reverse ++ gR E k :: rest)
    (kk : ∀ (H1 : Heap) (locs1 : List Loc), GX E S' H1 locs1 → W p l e R s m args below meth c H1 locs1 cells slots Q (F0 m (pc + 3) ls rest)) : W p l e R s m args below meth c H locs cells slots Q (F0 m pc ls st0) := g_callV hc hG hM hl hm hi hk hq hqn hn hls hrc hrs hR hw hcs hdg hst kk
theorem g_callSi {r : Int32} (hc : GM E p s m args meth c own cc nL ret) (hG : GX E S H locs) {As : List Value} (hM : gMet l E y ccy nLy rety rm As S (some (.int r)) S') (hl : Cond.methodLink own idx y ∈ lw_g) (hm : MCk y ccy nLy rety n) (hi : Cond.static y ∈ lw_g) (hn : As.length = n) (hls : ls.size = nL) (hrc : rm.cells = 0) (hrs : rm.slots = 0) (hR : rm.frames + 1 ≤ R.frames ∧ 8 + (nLy + 11) + rm.locals ≤ R.locals) (hw : (rest.map fun v => v.category).sum ≤ 8) (hcs : cells ≤ R.cells ∧ slots ≤ R.slots) (hdg : decode cc pc = .ok (.invokestatic idx, 3)) (hst : st0 = As.reverse ++ rest)
    (kk : ∀ (H1 : Heap) (locs1 : List Loc), GX E S' H1 locs1 → W p l e R s m args below meth c H1 locs1 cells slots Q (F0 m (pc + 3) ls (.int r :: rest))) : W p l e R s m args below meth c H locs cells slots Q (F0 m pc ls st0) := g_callS hc hG hM hl hm hi hn hls hrc hrs hR hw hcs hdg hst kk
theorem g_callSl {r : Int64} (hc : GM E p s m args meth c own cc nL ret) (hG : GX E S H locs) {As : List Value} (hM : gMet l E y ccy nLy rety rm As S (some (.long r)) S') (hl : Cond.methodLink own idx y ∈ lw_g) (hm : MCk y ccy nLy rety n) (hi : Cond.static y ∈ lw_g) (hn : As.length = n) (hls : ls.size = nL) (hrc : rm.cells = 0) (hrs : rm.slots = 0) (hR : rm.frames + 1 ≤ R.frames ∧ 8 + (nLy + 11) + rm.locals ≤ R.locals) (hw : (rest.map fun v => v.category).sum ≤ 8) (hcs : cells ≤ R.cells ∧ slots ≤ R.slots) (hdg : decode cc pc = .ok (.invokestatic idx, 3)) (hst : st0 = As.reverse ++ rest)
    (kk : ∀ (H1 : Heap) (locs1 : List Loc), GX E S' H1 locs1 → W p l e R s m args below meth c H1 locs1 cells slots Q (F0 m (pc + 3) ls (.long r :: rest))) : W p l e R s m args below meth c H locs cells slots Q (F0 m pc ls st0) := g_callS hc hG hM hl hm hi hn hls hrc hrs hR hw hcs hdg hst kk
theorem g_callSv (hc : GM E p s m args meth c own cc nL ret) (hG : GX E S H locs) {As : List Value} (hM : gMet l E y ccy nLy rety rm As S none S') (hl : Cond.methodLink own idx y ∈ lw_g) (hm : MCk y ccy nLy rety n) (hi : Cond.static y ∈ lw_g) (hn : As.length = n) (hls : ls.size = nL) (hrc : rm.cells = 0) (hrs : rm.slots = 0) (hR : rm.frames + 1 ≤ R.frames ∧ 8 + (nLy + 11) + rm.locals ≤ R.locals) (hw : (rest.map fun v => v.category).sum ≤ 8) (hcs : cells ≤ R.cells ∧ slots ≤ R.slots) (hdg : decode cc pc = .ok (.invokestatic idx, 3)) (hst : st0 = As.reverse ++ rest)
    (kk : ∀ (H1 : Heap) (locs1 : List Loc), GX E S' H1 locs1 → W p l e R s m args below meth c H1 locs1 cells slots Q (F0 m (pc + 3) ls rest)) : W p l e R s m args below meth c H locs cells slots Q (F0 m pc ls st0) := g_callS hc hG hM hl hm hi hn hls hrc hrs hR hw hcs hdg hst kk
theorem g_callSNi {r : Int32} (hc : GM E p s m args meth c own cc nL ret) (hG : GX E S H locs) {As : List Value} {host : String} (hM : gMet l E y ccy nLy rety rm As S (some (.int r)) S') (hl : Cond.methodLinkNest own idx y host ∈ gnestM) (hm : MCk y ccy nLy rety n) (hi : Cond.static y ∈ lw_g) (hn : As.length = n) (hls : ls.size = nL) (hrc : rm.cells = 0) (hrs : rm.slots = 0) (hR : rm.frames + 1 ≤ R.frames ∧ 8 + (nLy + 11) + rm.locals ≤ R.locals) (hw : (rest.map fun v => v.category).sum ≤ 8) (hcs : cells ≤ R.cells ∧ slots ≤ R.slots) (hdg : decode cc pc = .ok (.invokestatic idx, 3)) (hst : st0 = As.reverse ++ rest)
    (kk : ∀ (H1 : Heap) (locs1 : List Loc), GX E S' H1 locs1 → W p l e R s m args below meth c H1 locs1 cells slots Q (F0 m (pc + 3) ls (.int r :: rest))) : W p l e R s m args below meth c H locs cells slots Q (F0 m pc ls st0) := g_callSN hc hG hM hl hm hi hn hls hrc hrs hR hw hcs hdg hst kk
theorem g_callSNl {r : Int64} (hc : GM E p s m args meth c own cc nL ret) (hG : GX E S H locs) {As : List Value} {host : String} (hM : gMet l E y ccy nLy rety rm As S (some (.long r)) S') (hl : Cond.methodLinkNest own idx y host ∈ gnestM) (hm : MCk y ccy nLy rety n) (hi : Cond.static y ∈ lw_g) (hn : As.length = n) (hls : ls.size = nL) (hrc : rm.cells = 0) (hrs : rm.slots = 0) (hR : rm.frames + 1 ≤ R.frames ∧ 8 + (nLy + 11) + rm.locals ≤ R.locals) (hw : (rest.map fun v => v.category).sum ≤ 8) (hcs : cells ≤ R.cells ∧ slots ≤ R.slots) (hdg : decode cc pc = .ok (.invokestatic idx, 3)) (hst : st0 = As.reverse ++ rest)
    (kk : ∀ (H1 : Heap) (locs1 : List Loc), GX E S' H1 locs1 → W p l e R s m args below meth c H1 locs1 cells slots Q (F0 m (pc + 3) ls (.long r :: rest))) : W p l e R s m args below meth c H locs cells slots Q (F0 m pc ls st0) := g_callSN hc hG hM hl hm hi hn hls hrc hrs hR hw hcs hdg hst kk
theorem g_callSNv (hc : GM E p s m args meth c own cc nL ret) (hG : GX E S H locs) {As : List Value} {host : String} (hM : gMet l E y ccy nLy rety rm As S none S') (hl : Cond.methodLinkNest own idx y host ∈ gnestM) (hm : MCk y ccy nLy rety n) (hi : Cond.static y ∈ lw_g) (hn : As.length = n) (hls : ls.size = nL) (hrc : rm.cells = 0) (hrs : rm.slots = 0) (hR : rm.frames + 1 ≤ R.frames ∧ 8 + (nLy + 11) + rm.locals ≤ R.locals) (hw : (rest.map fun v => v.category).sum ≤ 8) (hcs : cells ≤ R.cells ∧ slots ≤ R.slots) (hdg : decode cc pc = .ok (.invokestatic idx, 3)) (hst : st0 = As.reverse ++ rest)
    (kk : ∀ (H1 : Heap) (locs1 : List Loc), GX E S' H1 locs1 → W p l e R s m args below meth c H1 locs1 cells slots Q (F0 m (pc + 3) ls rest)) : W p l e R s m args below meth c H locs cells slots Q (F0 m pc ls st0) := g_callSN hc hG hM hl hm hi hn hls hrc hrs hR hw hcs hdg hst kk
abbrev gZ (E : GE) (below : List Frame) (args : Array Value) (s : State) (v : Option Value) (S : GS) : State → Prop := MQ below (gQ E v S) args s 0 0 (gF E)
theorem g_iret0 (hc : GM E p s m args meth c own cc nL (some .int)) (hG : GX E S H locs) {r : Int32} (hdg : decode cc pc = .ok (.ireturn, 1)) : W p l e R s m args below meth c H locs 0 0 (gZ E below args s (some (.int r)) S) (F0 m pc ls [.int r]) := by
  obtain ⟨hx, hb, -, hr, hlocks, -⟩ := hc
  exact W.iret hx hb hr (fun t ht _ => ⟨rfl, by rw [ht]; exact hG.nil⟩) hG.2.2.2 hdg
theorem g_zret0 (hc : GM E p s m args meth c own cc nL (some .boolean)) (hG : GX E S H locs) {r : Int32} (hz : r = 0 ∨ r = 1) (hdg : decode cc pc = .ok (.ireturn, 1)) : W p l e R s m args below meth c H locs 0 0 (gZ E below args s (some (.int r)) S) (F0 m pc ls [.int r]) := by
  obtain ⟨hx, hb, -, hr, hlocks, -⟩ := hc
  exact W.zret hx hb hr (by rcases hz with rfl | rfl <;> decide) (fun t ht _ => ⟨rfl, by rw [ht]; exact hG.nil⟩) hG.2.2.2 hdg
theorem g_vret0 (hc : GM E p s m args meth c own cc nL none) (hG : GX E S H locs) (hdg : decode cc pc = .ok (.return_, 1)) : W p l e R s m args below meth c H locs 0 0 (gZ E below args s none S) (F0 m pc ls []) := by
  obtain ⟨hx, hb, -, hr, hlocks, -⟩ := hc
  exact W.vret hx hb hr (fun t ht _ => ⟨rfl, by rw [ht]; exact hG.nil⟩) hG.2.2.2 hdg
theorem g_iretp (hc : GM E p s m args meth c own cc nL (some .int)) (hG : GX E S H locs) {r res : Int32} (hdg : decode cc pc = .ok (.ireturn, 1)) (h : some r = some res) : W p l e R s m args below meth c H locs 0 0 (gZ E below args s (some (.int res)) S) (F0 m pc ls [.int r]) := by cases h; exact g_iret0 hc hG hdg
theorem g_zretp (hc : GM E p s m args meth c own cc nL (some .boolean)) (hG : GX E S H locs) {r res : Int32} (hz : r = 0 ∨ r = 1) (hdg : decode cc pc = .ok (.ireturn, 1)) (h : some r = some res) : W p l e R s m args below meth c H locs 0 0 (gZ E below args s (some (.int res)) S) (F0 m pc ls [.int r]) := by cases h; exact g_zret0 hc hG hz hdg
theorem g_lretp (hc : GM E p s m args meth c own cc nL (some .long)) (hG : GX E S H locs) {r res : Int64} (hdg : decode cc pc = .ok (.lreturn, 1)) (h : some r = some res) : W p l e R s m args below meth c H locs 0 0 (gZ E below args s (some (.long res)) S) (F0 m pc ls [.long r]) := by
  cases h
  obtain ⟨hx, hb, -, hr, hlocks, -⟩ := hc
  exact W.lret hx hb hr (fun t ht _ => ⟨rfl, by rw [ht]; exact hG.nil⟩) hG.2.2.2 hdg
theorem g_vretp (hc : GM E p s m args meth c own cc nL none) (hG : GX E S H locs) {res : Unit} (hdg : decode cc pc = .ok (.return_, 1)) (h : some () = some res) : W p l e R s m args below meth c H locs 0 0 (gZ E below args s none S) (F0 m pc ls []) := g_vret0 hc hG hdg
theorem g_iret (hc : GM E p s m args meth c own cc nL (some .int)) (hG : GX E S H locs) {r : Int32} {res : Int32 × GS} (hdg : decode cc pc = .ok (.ireturn, 1)) (h : some (r, S) = some res) : W p l e R s m args below meth c H locs 0 0 (gZ E below args s (some (.int res.1)) res.2) (F0 m pc ls [.int r]) := by cases h; exact g_iret0 hc hG hdg
theorem g_zret (hc : GM E p s m args meth c own cc nL (some .boolean)) (hG : GX E S H locs) {r : Int32} {res : Int32 × GS} (hz : r = 0 ∨ r = 1) (hdg : decode cc pc = .ok (.ireturn, 1)) (h : some (r, S) = some res) : W p l e R s m args below meth c H locs 0 0 (gZ E below args s (some (.int res.1)) res.2) (F0 m pc ls [.int r]) := by cases h; exact g_zret0 hc hG hz hdg
theorem g_vret (hc : GM E p s m args meth c own cc nL none) (hG : GX E S H locs) {res : Unit × GS} (hdg : decode cc pc = .ok (.return_, 1)) (h : some ((), S) = some res) : W p l e R s m args below meth c H locs 0 0 (gZ E below args s none res.2) (F0 m pc ls []) := by cases h; exact g_vret0 hc hG hdg
end GCalls
/-- a contract out of a walk from the method's entry -/
theorem g_met {l : Launch} {E : GE} {y : MethodName} {cc : ByteArray} {nL : Nat} {ret : Option FieldType} {rm : Room} {av : List Value} {S S' : GS} {v : Option Value} {lv : List (Nat × Value)} (hy : plainName y.cls = true) (hav : (lg_sl av).length ≤ nL) (hlv : lv_args 0 av = lv)
    (body : ∀ (p : Program) (e : Env) (s : State) (m : MethodId) (below : List Frame) (meth : Method) (c : Code) (H : Heap) (ls : Array Slot), GM E p s m av.toArray meth c y.cls cc nL ret → GX E S H [] → lv_has ls nL lv → W p l e rm s m av.toArray below meth c H [] 0 0 (gZ E below av.toArray s v S') (F0 m 0 ls [])) : gMet l E y cc nL ret rm av S v S' := by
  refine Met.ofW (cc := cc) (maxL := nL) (ret := ret) hy rfl ?_
  intro p e s m args below meth c s₁ B hml hv
  obtain ⟨rfl, hG, hK⟩ := hv
  have hts := atoms_spec (ws := Cond.code y cc nL ret :: lw_g) B.pre
  have hown : s.vm.findClass y.cls = some m.cls := findClass_of_methodNamed B.named
  have hl := lv_entry av (n := nL) hav
  rw [hlv] at hl
  rw [lg_entry_eq]
  exact body p e s m below meth c s.heap _ ⟨B.exec, B.bytes, hml, B.returns, B.notSynchronized, hown, fun w hw => hts w (List.mem_cons_of_mem _ hw), hK, Decidable.em _⟩ hG hl
def FU : Nat := 10000
def gush (x y : Int32) : Int32 := (x.toUInt32 >>> (y.toUInt32 &&& Int32.toUInt32 31)).toInt32
theorem inX0 : ∀ w ∈ u_ws RX0 TX0 7, w ∈ lw_g := fun w hw => List.mem_filter.mpr ⟨(show ∀ w ∈ u_ws RX0 TX0 7, w ∈ lw_tbl by decide +kernel) w hw, (show ∀ w ∈ u_ws RX0 TX0 7, goodWord w = true by decide +kernel) w hw⟩
theorem inX1 : ∀ w ∈ u_ws RX1 TX1 3, w ∈ lw_g := fun w hw => List.mem_filter.mpr ⟨(show ∀ w ∈ u_ws RX1 TX1 3, w ∈ lw_tbl by decide +kernel) w hw, (show ∀ w ∈ u_ws RX1 TX1 3, goodWord w = true by decide +kernel) w hw⟩
theorem inX2 : ∀ w ∈ u_ws RX2 TX2 3, w ∈ lw_g := fun w hw => List.mem_filter.mpr ⟨(show ∀ w ∈ u_ws RX2 TX2 3, w ∈ lw_tbl by decide +kernel) w hw, (show ∀ w ∈ u_ws RX2 TX2 3, goodWord w = true by decide +kernel) w hw⟩
theorem inX3 : ∀ w ∈ u_ws RX3 TX3 16, w ∈ lw_g := fun w hw => List.mem_filter.mpr ⟨(show ∀ w ∈ u_ws RX3 TX3 16, w ∈ lw_tbl by decide +kernel) w hw, (show ∀ w ∈ u_ws RX3 TX3 16, goodWord w = true by decide +kernel) w hw⟩
theorem inX4 : ∀ w ∈ u_ws RX4 TX4 7, w ∈ lw_g := fun w hw => List.mem_filter.mpr ⟨(show ∀ w ∈ u_ws RX4 TX4 7, w ∈ lw_tbl by decide +kernel) w hw, (show ∀ w ∈ u_ws RX4 TX4 7, goodWord w = true by decide +kernel) w hw⟩
theorem inX5 : ∀ w ∈ u_ws RX5 TX5 2, w ∈ lw_g := fun w hw => List.mem_filter.mpr ⟨(show ∀ w ∈ u_ws RX5 TX5 2, w ∈ lw_tbl by decide +kernel) w hw, (show ∀ w ∈ u_ws RX5 TX5 2, goodWord w = true by decide +kernel) w hw⟩
theorem inX6 : ∀ w ∈ u_ws RX6 TX6 7, w ∈ lw_g := fun w hw => List.mem_filter.mpr ⟨(show ∀ w ∈ u_ws RX6 TX6 7, w ∈ lw_tbl by decide +kernel) w hw, (show ∀ w ∈ u_ws RX6 TX6 7, goodWord w = true by decide +kernel) w hw⟩
theorem inX7 : ∀ w ∈ u_ws RX7 TX7 6, w ∈ lw_g := fun w hw => List.mem_filter.mpr ⟨(show ∀ w ∈ u_ws RX7 TX7 6, w ∈ lw_tbl by decide +kernel) w hw, (show ∀ w ∈ u_ws RX7 TX7 6, goodWord w = true by decide +kernel) w hw⟩
theorem inX8 : ∀ w ∈ u_ws RX8 TX8 6, w ∈ lw_g := fun w hw => List.mem_filter.mpr ⟨(show ∀ w ∈ u_ws RX8 TX8 6, w ∈ lw_tbl by decide +kernel) w hw, (show ∀ w ∈ u_ws RX8 TX8 6, goodWord w = true by decide +kernel) w hw⟩
theorem inX9 : ∀ w ∈ u_ws RX9 TX9 12, w ∈ lw_g := fun w hw => List.mem_filter.mpr ⟨(show ∀ w ∈ u_ws RX9 TX9 12, w ∈ lw_tbl by decide +kernel) w hw, (show ∀ w ∈ u_ws RX9 TX9 12, goodWord w = true by decide +kernel) w hw⟩
theorem inX10 : ∀ w ∈ u_ws RX10 TX10 13, w ∈ lw_g := fun w hw => List.mem_filter.mpr ⟨(show ∀ w ∈ u_ws RX10 TX10 13, w ∈ lw_tbl by decide +kernel) w hw, (show ∀ w ∈ u_ws RX10 TX10 13, goodWord w = true by decide +kernel) w hw⟩
theorem inX11 : ∀ w ∈ u_ws RX11 TX11 62, w ∈ lw_g := fun w hw => List.mem_filter.mpr ⟨(show ∀ w ∈ u_ws RX11 TX11 62, w ∈ lw_tbl by decide +kernel) w hw, (show ∀ w ∈ u_ws RX11 TX11 62, goodWord w = true by decide +kernel) w hw⟩
theorem gq0 : ∀ a, a < 88 → gk a < 12 → ∀ b, b < gcn (gk a) → gfc a b = 1000 + 0 → a = 0 ∧ b = 8 := by decide +kernel
theorem gq1 : ∀ a, a < 88 → gk a < 12 → ∀ b, b < gcn (gk a) → gfc a b = 1000 + 1 → a = 0 ∧ b = 9 := by decide +kernel
theorem gq2 : ∀ a, a < 88 → gk a < 12 → ∀ b, b < gcn (gk a) → gfc a b = 1000 + 2 → a = 35 ∧ b = 4 := by decide +kernel
theorem gq3 : ∀ a, a < 88 → gk a < 12 → ∀ b, b < gcn (gk a) → gfc a b = 1000 + 3 → a = 31 ∧ b = 3 := by decide +kernel
theorem gq4 : ∀ a, a < 88 → gk a < 12 → ∀ b, b < gcn (gk a) → gfc a b = 1000 + 4 → a = 32 ∧ b = 0 := by decide +kernel

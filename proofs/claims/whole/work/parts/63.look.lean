/-! look: the class's (it returns or throws), and the law's own, which catches -/
def tIo : String := "java/lang/IndexOutOfBoundsException"
def tNs : String := "java/util/NoSuchElementException"
/-- what else lies in the heap before the law: Throwable's two statics; what isn't castable -/
def gdc : List MethodName := [Bundle.initS tRt, Bundle.initS tEx, Bundle.initS Bundle.tN]
def GT (E : GE) (U : State) : Prop := vx_Zq Bundle.tN "UNASSIGNED_STACK" Bundle.steD (gA E.1) U E.1 ∧ vx_Zq Bundle.tN "SUPPRESSED_SENTINEL" Bundle.listD (gA E.1) U E.1 ∧ va_Nc tNs tIo U ∧ (∀ x ∈ gdc, va_Nw (.declares x) U) ∧ va_Nw (.castable tIo tIo) U ∧ va_Nw (.castable tNs tNs) U
theorem GT.al {E : GE} {s U : State} (ha : s.vm.Alike U.vm) (h : GT E s) : GT E U :=
  ⟨vx_Zq.moved ha h.1, vx_Zq.moved ha h.2.1, va_Nc.moved ha h.2.2.1, fun x hx => va_tabs rfl (rfl : (s.setVm U.vm).vm = U.vm) (by rw [Cond.declares_setVm ha]; exact h.2.2.2.1 x hx), va_tabs rfl (rfl : (s.setVm U.vm).vm = U.vm) (by rw [Cond.castable_setVm ha]; exact h.2.2.2.2.1), va_tabs rfl (rfl : (s.setVm U.vm).vm = U.vm) (by rw [Cond.castable_setVm ha]; exact h.2.2.2.2.2)⟩
theorem GX.grow {E : GE} {S : GS} {H H1 : Heap} {locs : List Loc} (h : GX E S H locs) (h1 : H.size ≤ H1.size) (h2 : ∀ q : Nat, q < H.size → H1[q]? = H[q]?) : GX E S H1 [] := by
  refine ⟨h.1.kept fun k q hq => h2 _ (h.1 k q hq).lt, Nat.le_trans h.2.1 h1, fun q k1 k2 => ?_, fun _ q => by cases q⟩
  rw [h2 q (Nat.lt_of_lt_of_le k1 h.2.1)]
  exact h.2.2.1 q k1 k2
abbrev kPre (E : GE) (av : List Value) (S : GS) : Array Value → State → Prop := va_Pc av (fun U => GX E S U.heap [] ∧ GK E U ∧ GT E U)
theorem kPre_blind (E : GE) (av : List Value) (S : GS) : FrameBlind (kPre E av S) := by
  intro a U g mk h
  exact ⟨h.1, h.2.1, GK.vm (s := U) (U := U.calling g mk a) rfl h.2.2.1, GT.al (s := U) (U := U.calling g mk a) (Vm.Alike.refl _) h.2.2.2⟩
def kQ (E : GE) (res : Int32 ⊕ String) (S : GS) : Array Value → State → Outcome → State → Prop := fun _ _ o t => ∃ r, res = .inl r ∧ o = .returned (some (.int r)) ∧ GX E S t.heap []
def kX (E : GE) (res : Int32 ⊕ String) (S : GS) : String → State → State → Prop := fun En _ t => res = .inr En ∧ GX E S t.heap []
def kRs (S : GS) (nk : Nat) (a b : Int32) (res : Int32 ⊕ String) : Prop := (gib a nk = false ∧ res = .inr tIo) ∨ (gib a nk = true ∧ (b < 0 ∨ 4 < b) ∧ res = .inr tNs) ∨ (gib a nk = true ∧ ∃ j, j < 5 ∧ b = nI j ∧ res = .inl (S.1 (8 + j) a.toNatClampNeg))
abbrev kB1 : ByteArray := prog_15_method_2_code
abbrev kB2 : ByteArray := prog_24_method_4_code
theorem kb1_0 : decode kB1 0 = .ok (.aload_n 0, 1) := by decide +kernel
theorem kb1_1 : decode kB1 1 = .ok (.aload_n 1, 1) := by decide +kernel
theorem kb1_2 : decode kB1 2 = .ok (.invokespecial 7, 3) := by decide +kernel
theorem kb1_5 : decode kB1 5 = .ok (.return_, 1) := by decide +kernel
theorem kb2_0 : decode kB2 0 = .ok (.aload_n 0, 1) := by decide +kernel
theorem kb2_1 : decode kB2 1 = .ok (.aload_n 1, 1) := by decide +kernel
theorem kb2_2 : decode kB2 2 = .ok (.invokespecial 13, 3) := by decide +kernel
theorem kb2_5 : decode kB2 5 = .ok (.return_, 1) := by decide +kernel
theorem kt1 : ∀ w ∈ (tAt RX10 210 tIo 7 kB1).filter vx_no, w ∈ lw_tbl := by decide +kernel
theorem kg1 : ∀ w ∈ (tAt RX10 210 tIo 7 kB1).filter vx_no, goodWord w = true ∨ w ∈ gdc.map Cond.declares := by decide +kernel
theorem kw1 {E : GE} {s : State} {args : Array Value} (hts : ∀ w ∈ lw_g, w.before args s = true) (hT : GT E s) : ∀ w ∈ (tAt RX10 210 tIo 7 kB1).filter vx_no, w.before args s = true := fun w hw => by
  rcases kg1 w hw with g | g
  · exact hts w (List.mem_filter.mpr ⟨kt1 w hw, g⟩)
  · obtain ⟨x, hx, rfl⟩ := List.mem_map.mp g
    exact va_Nw.use rfl (hT.2.2.2.1 x hx)
theorem kt2 : ∀ w ∈ (tAt RX10 228 tNs 13 kB2).filter vx_no, w ∈ lw_tbl := by decide +kernel
theorem kg2 : ∀ w ∈ (tAt RX10 228 tNs 13 kB2).filter vx_no, goodWord w = true ∨ w ∈ gdc.map Cond.declares := by decide +kernel
theorem kw2 {E : GE} {s : State} {args : Array Value} (hts : ∀ w ∈ lw_g, w.before args s = true) (hT : GT E s) : ∀ w ∈ (tAt RX10 228 tNs 13 kB2).filter vx_no, w.before args s = true := fun w hw => by
  rcases kg2 w hw with g | g
  · exact hts w (List.mem_filter.mpr ⟨kt2 w hw, g⟩)
  · obtain ⟨x, hx, rfl⟩ := List.mem_map.mp g
    exact va_Nw.use rfl (hT.2.2.2.1 x hx)
theorem ko1 : ∀ w ∈ Cond.classLink RX10 206 tIo :: Cond.initialized tIo :: (tAt RX10 210 tIo 7 kB1).filter vx_no, vx_ot w = true := by decide +kernel
theorem ko2 : ∀ w ∈ Cond.classLink RX10 224 tNs :: Cond.initialized tNs :: (tAt RX10 228 tNs 13 kB2).filter vx_no, vx_ot w = true := by decide +kernel
theorem kc1 : Cond.classLink RX10 206 tIo ∈ lw_g := lw_g_of 949 (by decide +kernel) (by decide +kernel)
theorem kc2 : Cond.classLink RX10 224 tNs ∈ lw_g := lw_g_of 1015 (by decide +kernel) (by decide +kernel)
theorem ki1 : Cond.initialized tIo ∈ lw_g := lw_g_of 23 (by decide +kernel) (by decide +kernel)
theorem ki2 : Cond.initialized tNs ∈ lw_g := lw_g_of 24 (by decide +kernel) (by decide +kernel)
theorem kml136 : Cond.methodLink RX10 136 yX10_isCase ∈ lw_g := (List.mem_filter.mpr ⟨(show Cond.methodLink RX10 136 yX10_isCase ∈ lw_tbl by decide +kernel), by decide +kernel⟩)
theorem kfl213 : FLk RX10 213 0 1 := ⟨RX0, TX0, 7, tyX0, rfl, inX0, tyX0_ok, nmX0, by decide, by decide, List.mem_filter.mpr ⟨by decide +kernel, by decide +kernel⟩⟩
theorem kfl215 : FLk RX10 215 0 2 := ⟨RX0, TX0, 7, tyX0, rfl, inX0, tyX0_ok, nmX0, by decide, by decide, List.mem_filter.mpr ⟨by decide +kernel, by decide +kernel⟩⟩
theorem kfl139 : FLk RX10 139 0 3 := ⟨RX0, TX0, 7, tyX0, rfl, inX0, tyX0_ok, nmX0, by decide, by decide, List.mem_filter.mpr ⟨by decide +kernel, by decide +kernel⟩⟩
theorem kfl218 : FLk RX10 218 0 4 := ⟨RX0, TX0, 7, tyX0, rfl, inX0, tyX0_ok, nmX0, by decide, by decide, List.mem_filter.mpr ⟨by decide +kernel, by decide +kernel⟩⟩
theorem kfl221 : FLk RX10 221 0 5 := ⟨RX0, TX0, 7, tyX0, rfl, inX0, tyX0_ok, nmX0, by decide, by decide, List.mem_filter.mpr ⟨by decide +kernel, by decide +kernel⟩⟩
theorem kfl30 : FLk RX10 30 10 5 := ⟨RX10, TX10, 13, tyX10, rfl, inX10, tyX10_ok, nmX10, by decide, by decide, List.mem_filter.mpr ⟨by decide +kernel, by decide +kernel⟩⟩
abbrev rmX10_look : Room := { frames := 6, cells := 1, slots := 6, locals := 82 }
set_option maxRecDepth 100000 in
set_option maxHeartbeats 4000000 in
theorem xX10_look (l : Launch) (hl : l.stackTraces = false) (E : GE) {S : GS} {nk : Nat} {a b : Int32} {res : Int32 ⊕ String} (h7 : S.1 7 0 = nI nk) (hnk : nk ≤ 32) (hres : kRs S nk a b res) :
    vx_Met l yX10_look (Cond.code yX10_look cX10_look 3 (some .int) :: lw_g) rmX10_look (kPre E [gR E 0, .int a, .int b] S) (kQ E res S) (kX E res S) 1 6 (gF E) := by
  refine vx_ofW (cc := cX10_look) (maxL := 3) (ret := some .int) (by decide) rfl ?_
  intro p e s m args below meth c s₁ B hml htab hv
  obtain ⟨rfl, hG0, hK, hT⟩ := hv
  have hts0 := atoms_spec (ws := Cond.code yX10_look cX10_look 3 (some .int) :: lw_g) B.pre
  have hown : s.vm.findClass RX10 = some m.cls := findClass_of_methodNamed B.named
  have hc : GM E p s m [gR E 0, .int a, .int b].toArray meth c RX10 cX10_look 3 (some .int) := ⟨B.exec, B.bytes, hml, B.returns, B.notSynchronized, hown, fun w hw => hts0 w (List.mem_cons_of_mem _ hw), hK, Decidable.em _⟩
  have hts : ∀ w ∈ lw_g, w.before [gR E 0, .int a, .int b].toArray s = true := fun w hw => hts0 w (List.mem_cons_of_mem _ hw)
  have hx := B.exec
  have hb := B.bytes
  have hl3 := lv_entry [gR E 0, .int a, .int b] (n := 3) (Nat.le_of_ble_eq_true rfl)
  rw [show lv_args 0 [gR E 0, .int a, .int b] = [(0, gR E 0), (1, .int a), (2, .int b)] from rfl] at hl3
  rw [lg_entry_eq]
  generalize (lg_sl [gR E 0, .int a, .int b] ++ List.replicate (3 - (lg_sl [gR E 0, .int a, .int b]).length) Slot.unset).toArray = ls at hl3 ⊢
  have hno : ∀ pc, ∀ x ∈ c.exceptionTable.toList, covers x pc = false := fun pc x hx => (htab x hx).elim
  have hi : fX10_isCase S a = some (gz (gib a nk)) := x_isCase h7 (by omega)
  refine lv_aload_n hx hb dX10_look_0 rfl (lv_at hl3 0 rfl) ?_
  refine lv_iload_n hx hb dX10_look_1 rfl (lv_at hl3 1 rfl) ?_
  refine g_callVi hc hG0 (As := [.int a]) (k := 0) (mX10_isCase l E hi) kml136 mcX10_isCase miX10_isCase rfl rfl rfl rfl hl3.1 rfl rfl ⟨Nat.le_of_ble_eq_true rfl, Nat.le_of_ble_eq_true rfl⟩ (Nat.le_of_ble_eq_true rfl) ⟨Nat.le_of_ble_eq_true rfl, Nat.le_of_ble_eq_true rfl⟩ dX10_look_2 rfl (fun H locs hG => ?_)
  have tU : vx_Zq Bundle.tN "UNASSIGNED_STACK" Bundle.steD (gA E.1) s H := hT.1.kept hG.2.2.1
  have tN : vx_Zq Bundle.tN "SUPPRESSED_SENTINEL" Bundle.listD (gA E.1) s H := hT.2.1.kept hG.2.2.1
  refine lv_if_ne (tgt := 18) hx hb dX10_look_5 (by decide) (fun c1 => ?_) (fun c1 => ?_)
  · have g1 : gib a nk = true := by
      cases q : gib a nk
      · rw [q] at c1; exact absurd rfl c1
      · rfl
    refine lv_iload_n hx hb dX10_look_18 rfl (lv_at hl3 2 rfl) ?_
    rcases hres with ⟨h0, -⟩ | ⟨-, hb4, hr⟩ | ⟨-, j, hj, hbj, hr⟩
    · rw [g1] at h0; cases h0
    · have e0 : (0 : Int32).toInt = 0 := by decide
      have e4 : (4 : Int32).toInt = 4 := by decide
      refine lv_tableOut (tgt := 102) hx hb dX10_look_19 (by rcases hb4 with q | q <;> rw [fa_lt] at q <;> omega) (by decide) ?_
      refine t_throw (text := "no such what") (A := gA E.1) hx hb hl hown (by decide) kb2_0 kb2_1 kb2_2 kb2_5 (hts _ kc2) (hts _ ki2) (hK.2.2.2.1 1 (by decide)) (kw2 hts hT) ko2 tU tN (hl3.1.trans hml.symm) dX10_look_102 dX10_look_105 dX10_look_106 dX10_look_108 dX10_look_111 (hno _) (Nat.le_of_ble_eq_true rfl) (Nat.le_of_ble_eq_true rfl) (Nat.le_of_ble_eq_true rfl) (Nat.le_of_ble_eq_true rfl) B.notSynchronized (fun t _ k1 k2 => ⟨hr, hG.grow k1 k2⟩) hG.2.2.2
    · obtain ⟨g2, g3⟩ := gib_c g1 (by omega)
      have g32 : gib a 32 = true := gib_ge g1 hnk
      have fin : ∀ (pc : Nat) (r : Int32), res = .inl r → decode cX10_look pc = .ok (.ireturn, 1) → W p l e rmX10_look s m [gR E 0, .int a, .int b].toArray below meth c H locs 0 0 (vx_MQ below (kQ E res S) (kX E res S) [gR E 0, .int a, .int b].toArray s 1 6 (gF E)) (F0 m pc ls [.int r]) := by
        intro pc r hr2 hd
        exact vx_ret (W.widen (k := 1) (n := 6) (by omega) (by omega) (W.iret hx hb B.returns (fun t ht _ => ⟨r, hr2, rfl, by rw [ht]; exact hG.nil⟩) hG.2.2.2 hd B.notSynchronized))
      rcases (show j = 0 ∨ j = 1 ∨ j = 2 ∨ j = 3 ∨ j = 4 by omega) with rfl | rfl | rfl | rfl | rfl
      · refine lv_tableIn (off := 33) (tgt := 52) hx hb dX10_look_19 (by rw [hbj]; decide) (by rw [hbj]; decide) (by rw [hbj]; decide) (by decide) ?_
        refine lv_aload_n hx hb dX10_look_52 rfl (lv_at hl3 0 rfl) ?_
        refine g_getR hc hG 0 7 kfl30 rfl rfl rfl dX10_look_53 ?_
        refine g_getR hc hG 7 8 kfl213 rfl rfl rfl dX10_look_56 ?_
        refine lv_iload_n hx hb dX10_look_59 rfl (lv_at hl3 1 rfl) ?_
        refine g_iald hc hG 8 32 a.toNatClampNeg rfl rfl g32 rfl dX10_look_60 ?_
        exact fin 61 _ hr dX10_look_61
      · refine lv_tableIn (off := 43) (tgt := 62) hx hb dX10_look_19 (by rw [hbj]; decide) (by rw [hbj]; decide) (by rw [hbj]; decide) (by decide) ?_
        refine lv_aload_n hx hb dX10_look_62 rfl (lv_at hl3 0 rfl) ?_
        refine g_getR hc hG 0 7 kfl30 rfl rfl rfl dX10_look_63 ?_
        refine g_getR hc hG 7 9 kfl215 rfl rfl rfl dX10_look_66 ?_
        refine lv_iload_n hx hb dX10_look_69 rfl (lv_at hl3 1 rfl) ?_
        refine g_iald hc hG 9 32 a.toNatClampNeg rfl rfl g32 rfl dX10_look_70 ?_
        exact fin 71 _ hr dX10_look_71
      · refine lv_tableIn (off := 53) (tgt := 72) hx hb dX10_look_19 (by rw [hbj]; decide) (by rw [hbj]; decide) (by rw [hbj]; decide) (by decide) ?_
        refine lv_aload_n hx hb dX10_look_72 rfl (lv_at hl3 0 rfl) ?_
        refine g_getR hc hG 0 7 kfl30 rfl rfl rfl dX10_look_73 ?_
        refine g_getR hc hG 7 10 kfl139 rfl rfl rfl dX10_look_76 ?_
        refine lv_iload_n hx hb dX10_look_79 rfl (lv_at hl3 1 rfl) ?_
        refine g_iald hc hG 10 32 a.toNatClampNeg rfl rfl g32 rfl dX10_look_80 ?_
        exact fin 81 _ hr dX10_look_81
      · refine lv_tableIn (off := 63) (tgt := 82) hx hb dX10_look_19 (by rw [hbj]; decide) (by rw [hbj]; decide) (by rw [hbj]; decide) (by decide) ?_
        refine lv_aload_n hx hb dX10_look_82 rfl (lv_at hl3 0 rfl) ?_
        refine g_getR hc hG 0 7 kfl30 rfl rfl rfl dX10_look_83 ?_
        refine g_getR hc hG 7 11 kfl218 rfl rfl rfl dX10_look_86 ?_
        refine lv_iload_n hx hb dX10_look_89 rfl (lv_at hl3 1 rfl) ?_
        refine g_iald hc hG 11 32 a.toNatClampNeg rfl rfl g32 rfl dX10_look_90 ?_
        exact fin 91 _ hr dX10_look_91
      · refine lv_tableIn (off := 73) (tgt := 92) hx hb dX10_look_19 (by rw [hbj]; decide) (by rw [hbj]; decide) (by rw [hbj]; decide) (by decide) ?_
        refine lv_aload_n hx hb dX10_look_92 rfl (lv_at hl3 0 rfl) ?_
        refine g_getR hc hG 0 7 kfl30 rfl rfl rfl dX10_look_93 ?_
        refine g_getR hc hG 7 12 kfl221 rfl rfl rfl dX10_look_96 ?_
        refine lv_iload_n hx hb dX10_look_99 rfl (lv_at hl3 1 rfl) ?_
        refine g_iald hc hG 12 32 a.toNatClampNeg rfl rfl g32 rfl dX10_look_100 ?_
        exact fin 101 _ hr dX10_look_101
  · have g1 : gib a nk = false := by
      cases q : gib a nk
      · rfl
      · rw [q] at c1; exact absurd c1 (by decide)
    have hr : res = .inr tIo := by
      rcases hres with ⟨-, hr⟩ | ⟨h0, -⟩ | ⟨h0, -⟩
      · exact hr
      · rw [g1] at h0; cases h0
      · rw [g1] at h0; cases h0
    exact t_throw (text := "no such CASE") (A := gA E.1) hx hb hl hown (by decide) kb1_0 kb1_1 kb1_2 kb1_5 (hts _ kc1) (hts _ ki1) (hK.2.2.2.1 0 (by decide)) (kw1 hts hT) ko1 tU tN (hl3.1.trans hml.symm) dX10_look_8 dX10_look_11 dX10_look_12 dX10_look_14 dX10_look_17 (hno _) (Nat.le_of_ble_eq_true rfl) (Nat.le_of_ble_eq_true rfl) (Nat.le_of_ble_eq_true rfl) (Nat.le_of_ble_eq_true rfl) B.notSynchronized (fun t _ k1 k2 => ⟨hr, hG.grow k1 k2⟩) hG.2.2.2

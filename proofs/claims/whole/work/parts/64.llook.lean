/-! the law's own look: it calls the class's and catches what that throws -/
abbrev lHh : List (Nat × Nat × Nat × Nat) := [(0, 10, 13, 13), (0, 10, 17, 15)]
abbrev rmL_look : Room := { frames := 7, cells := 1, slots := 6, locals := 104 }
theorem lml7 : Cond.methodLink RL 7 yX10_look ∈ lw_g := lw_g_of 945 (by decide +kernel) (by decide +kernel)
theorem lmc7 : MCk yX10_look cX10_look 3 (some .int) 2 := ⟨lw_g_of 948 (by decide +kernel) (by decide +kernel), List.mem_filter.mpr ⟨(show Cond.initialized yX10_look.cls ∈ lw_tbl by decide +kernel), by decide +kernel⟩, by decide +kernel⟩
theorem lmi7 : MIk yX10_look := ⟨lw_g_of 946 (by decide +kernel) (by decide +kernel), lw_g_of 947 (by decide +kernel) (by decide +kernel)⟩
theorem lcl13 : Cond.classLink RL 13 tIo ∈ lw_g := lw_g_of 943 (by decide +kernel) (by decide +kernel)
theorem lcl15 : Cond.classLink RL 15 tNs ∈ lw_g := lw_g_of 944 (by decide +kernel) (by decide +kernel)
section
variable {p : Program} {l : Launch} {e : Env} {R : Room} {s : State} {m : MethodId} {args : Array Value} {below : List Frame} {meth : Method} {c : Code} {H : Heap} {locs : List Loc} {cells slots : Nat} {Q : State → Prop}
variable {E : GE} {S : GS} {pc : Nat} {ls : Array Slot} {rest st0 : List Value} {res : Int32 ⊕ String}
theorem k_ran {av : List Value} (hr : vx_Run p l e R s m args below meth c H locs cells slots 1 6 (F0 m pc ls st0) rest (kQ E res S av.toArray) (kX E res S) (gF E)) (hG : GX E S H locs)
    (kk : ∀ (r : Int32) (H1 : Heap) (locs1 : List Loc), res = .inl r → GX E S H1 locs1 → W p l e R s m args below meth c H1 locs1 (cells + 1) (slots + 6) Q (F0 m (pc + 3) ls (.int r :: rest)))
    (kx : ∀ (En : String) (ce : Cell) (q : Addr) (H1 : Heap) (locs1 : List Loc), res = .inr En → GX E S H1 locs1 → H1[q]? = some ce → ce.vm = .none → s.vm.findClass En = some ce.cls → vx_W p l e R s m args below meth c H1 locs1 (cells + 1) (slots + 6) Q (F0 m pc ls rest) q) : W p l e R s m args below meth c H locs cells slots Q (F0 m pc ls st0) := by
  intro T hT X
  rcases hr T hT X with ⟨v, st₀, t, T', L, h0, X', hL, e1, e2, ⟨r, h1, hv, hX⟩, st⟩ | ⟨q, st₀, t, T', L, En, ce, h0, X', hL, e1, e2, ⟨h1, hX⟩, hce, hcv, hcl, st⟩
  · cases hv
    obtain ⟨t2, a1, b1⟩ := kk r T'.heap (locs ++ L) h1 (by
      rw [e1]
      exact ⟨hX.1, hX.2.1, hX.2.2.1, fun q hq => (List.mem_append.mp hq).elim (hG.2.2.2 q) (hL q)⟩) T' rfl X'
    exact ⟨t2, st t2 a1, b1⟩
  · obtain ⟨t2, a1, b1⟩ := kx En ce q T'.heap (locs ++ L) h1 (by
      rw [e1]
      exact ⟨hX.1, hX.2.1, hX.2.2.1, fun q hq => (List.mem_append.mp hq).elim (hG.2.2.2 q) (hL q)⟩) (by rw [e1]; exact hce) hcv hcl T' rfl X'
    exact ⟨t2, st.trans a1, b1⟩
end
def kEnd (S : GS) (res : Int32 ⊕ String) (k : Int32) (S' : GS) : Prop := (∃ r, res = .inl r ∧ k = 0 ∧ S' = gsl S 87 0 r.toInt64) ∨ (res = .inr tIo ∧ k = 1 ∧ S' = S) ∨ (res = .inr tNs ∧ k = 2 ∧ S' = S)
set_option maxRecDepth 100000 in
set_option maxHeartbeats 4000000 in
theorem mL_look (l : Launch) (hl : l.stackTraces = false) (E : GE) {S S' : GS} {nk : Nat} {a b k : Int32} {res : Int32 ⊕ String} (h7 : S.1 7 0 = nI nk) (hnk : nk ≤ 32) (hres : kRs S nk a b res) (hk : kEnd S res k S') :
    Met l yL_look (Cond.codeWith yL_look cL_look 5 (some .int) lHh :: lw_g) rmL_look (kPre E [gR E 0, .int a, .int b, gR E 87] S) (gQ E (some (.int k)) S') 1 6 (gF E) := by
  refine va_MetW (cc := cL_look) (maxL := 5) (ret := some .int) (hh := lHh) (by decide) rfl ?_
  intro p e s m args below meth c s₁ B hml hv
  obtain ⟨rfl, hG0, hK, hT⟩ := hv
  have hts0 := atoms_spec (ws := Cond.codeWith yL_look cL_look 5 (some .int) lHh :: lw_g) B.pre
  have htab : c.exceptionTable.toList = [⟨0, 10, 13, 13⟩, ⟨0, 10, 17, 15⟩] := vx_table (x := yL_look) B (hts0 _ List.mem_cons_self)
  have hown : s.vm.findClass RL = some m.cls := findClass_of_methodNamed B.named
  have hts : ∀ w ∈ lw_g, w.before [gR E 0, .int a, .int b, gR E 87].toArray s = true := fun w hw => hts0 w (List.mem_cons_of_mem _ hw)
  have hc : GM E p s m [gR E 0, .int a, .int b, gR E 87].toArray meth c RL cL_look 5 (some .int) := ⟨B.exec, B.bytes, hml, B.returns, B.notSynchronized, hown, hts, hK, Decidable.em _⟩
  have hx := B.exec
  have hb := B.bytes
  have hl5 := lv_entry [gR E 0, .int a, .int b, gR E 87] (n := 5) (Nat.le_of_ble_eq_true rfl)
  rw [show lv_args 0 [gR E 0, .int a, .int b, gR E 87] = [(0, gR E 0), (1, .int a), (2, .int b), (3, gR E 87)] from rfl] at hl5
  rw [lg_entry_eq]
  generalize (lg_sl [gR E 0, .int a, .int b, gR E 87] ++ List.replicate (5 - (lg_sl [gR E 0, .int a, .int b, gR E 87]).length) Slot.unset).toArray = ls at hl5 ⊢
  refine lv_aload_n hx hb dL_look_0 rfl (lv_at hl5 3 rfl) ?_
  refine lv_iconst (v := (0 : Int32)) hx hb dL_look_1 (by decide) ?_
  refine lv_aload_n hx hb dL_look_2 rfl (lv_at hl5 0 rfl) ?_
  refine lv_iload_n hx hb dL_look_3 rfl (lv_at hl5 1 rfl) ?_
  refine lv_iload_n hx hb dL_look_4 rfl (lv_at hl5 2 rfl) ?_
  have hB : CallB rmL_look s [gR E 0, .int a, .int b, gR E 87].toArray RL 7 yX10_look cX10_look 3 (some .int) (Cond.code yX10_look cX10_look 3 (some .int) :: lw_g) rmX10_look 1 6 2 := by
    refine callB_of (Ts := lw_g) 2 hts (fun w hw => ?_) rfl rfl rfl (hts _ lmc7.2.1) (hts _ lml7) lmc7.2.2 ⟨Nat.le_of_ble_eq_true rfl, Nat.le_of_ble_eq_true rfl⟩
    rcases List.mem_cons.mp hw with rfl | hw
    · exact lw_g_good _ lmc7.1
    · exact lw_g_good _ hw
  refine k_ran (av := [gR E 0, .int a, .int b]) (vx_runV (C := yX10_look.cls) (As := [.int a, .int b]) (rest := [.int 0, gR E 87]) ⟨hx, hb, hml, hown, hts⟩ (xX10_look l hl E h7 hnk hres) ⟨hB, hts _ lmi7.1, hts _ lmi7.2⟩ ⟨kPre_blind E _ S, ?_, fun U hU hW => ⟨rfl, by rw [hU]; exact hG0.nil, hK.moved hW, hT.al hW.alike⟩⟩ rfl rfl hl5.1 rfl (Nat.le_of_ble_eq_true rfl) dL_look_5 ⟨Nat.le_of_ble_eq_true rfl, Nat.le_of_ble_eq_true rfl⟩) hG0 (fun r H locs hr hG => ?_) (fun En ce q H locs hr hG hce hcv hcl => ?_)
  · exact va_recv hK.1 hG0.1 (show vwCl[10]? = some (RX10, TX10, 13) from rfl) (show (gws _ _ _)[0]? = some (_, .inr (10, _)) by rw [gws_at (by decide), ge_o (k := 0) (ci := 10) rfl (by decide)])
  · have hk0 : k = 0 ∧ S' = gsl S 87 0 r.toInt64 := by
      rcases hk with ⟨r', h1, h2, h3⟩ | ⟨h1, -⟩ | ⟨h1, -⟩
      · rw [hr] at h1
        cases h1
        exact ⟨h2, h3⟩
      · rw [hr] at h1; cases h1
      · rw [hr] at h1; cases h1
    refine lv_i2l (v := r.toInt64) hx hb dL_look_8 rfl ?_
    refine g_last hc hG 87 1 0 rfl rfl (by decide) rfl dL_look_9 (fun S1 H1 locs1 e1 hG => ?_)
    refine lv_goto (tgt := 21) hx hb dL_look_10 (by decide) ?_
    refine lv_iconst (v := (0 : Int32)) hx hb dL_look_21 (by decide) ?_
    rw [hk0.1, hk0.2, ← e1]
    exact W.iret hx hb B.returns (fun t ht _ => ⟨rfl, by rw [ht]; exact hG.nil⟩) hG.2.2.2 dL_look_22 B.notSynchronized
  · have hen : (En = tIo ∧ k = 1 ∧ S' = S) ∨ (En = tNs ∧ k = 2 ∧ S' = S) := by
      rcases hk with ⟨r', h1, -⟩ | ⟨h1, h2, h3⟩ | ⟨h1, h2, h3⟩
      · rw [hr] at h1; cases h1
      · rw [hr] at h1; cases h1; exact Or.inl ⟨rfl, h2, h3⟩
      · rw [hr] at h1; cases h1; exact Or.inr ⟨rfl, h2, h3⟩
    rcases hen with ⟨rfl, rfl, rfl⟩ | ⟨rfl, rfl, rfl⟩
    · refine c_catch (n1 := tIo) (n2 := tNs) (En := tIo) (pc' := 13) hown htab rfl rfl (by decide) (by decide) (hts _ lcl13) (hts _ lcl15) hce hcv hcl (Or.inl ⟨va_Nw.use rfl hT.2.2.2.2.1, rfl⟩) ?_
      refine lv_astore (lv' := [(4, .ref q), (0, gR E 0), (1, .int a), (2, .int b), (3, gR E 87)]) hx hb dL_look_13 hl5 (by decide) rfl (fun ls hl5 => ?_)
      refine lv_iconst (v := (1 : Int32)) hx hb dL_look_15 (by decide) ?_
      exact W.iret hx hb B.returns (fun t ht _ => ⟨rfl, by rw [ht]; exact hG.nil⟩) hG.2.2.2 dL_look_16 B.notSynchronized
    · refine c_catch (n1 := tIo) (n2 := tNs) (En := tNs) (pc' := 17) hown htab rfl rfl (by decide) (by decide) (hts _ lcl13) (hts _ lcl15) hce hcv hcl (Or.inr ⟨hT.2.2.1, va_Nw.use rfl hT.2.2.2.2.2, rfl⟩) ?_
      refine lv_astore (lv' := [(4, .ref q), (0, gR E 0), (1, .int a), (2, .int b), (3, gR E 87)]) hx hb dL_look_17 hl5 (by decide) rfl (fun ls hl5 => ?_)
      refine lv_iconst (v := (2 : Int32)) hx hb dL_look_19 (by decide) ?_
      exact W.iret hx hb B.returns (fun t ht _ => ⟨rfl, by rw [ht]; exact hG.nil⟩) hG.2.2.2 dL_look_20 B.notSynchronized

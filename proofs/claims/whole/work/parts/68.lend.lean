/-! the law's end, and its loop -/
def R_law : String := "ReportedCasesLaw"
def lw_P (b : Addr) (xs : List Int32) (args : Array Value) (s : State) : Prop := args = #[.ref b] ∧ s.IntsAt b xs ∧ xs.length ≤ 3584 ∧ (Jvm.Cond.and given_1 narrow_1).before args s = true
def lw_Q (_ : Array Value) (s : State) (o : Outcome) (t : State) : Prop := o = .returned (some (.int 1)) ∧ Framed s o t [] 1114 13904
def lw_Z (below : List Frame) (a : Array Value) (s : State) : State → Prop := fun t => ∃ o, t.status = .running ∧ Ended t below o ∧ lw_Q a s o t
theorem lw_ret {p : Program} {l : Launch} {e : Env} {s : State} {m : MethodId} {below : List Frame} {meth : Method} {c : Code} {b : Nat} (hx : p.tables.exec = Jvm.exec) (hb : c.code = code) (hr : meth.sig.returnType = ret) (hlocks : meth.locks = false) {pc : Nat} {H : Heap} {ls : Array Slot} (hdg : decode code pc = .ok (.ireturn, 1)) : W p l e room_1 s m #[Value.ref b] below meth c H [] 1114 13904 (lw_Z below #[Value.ref b] s) (F0 m pc ls [.int 1]) := by
  intro T hT X
  obtain ⟨fs, hret, hrun, hended, hW, hframe⟩ := X.leave (v := some (.int 1)) (hlocks := hlocks) (fun h => by rw [hr] at h; cases h)
  have hmeth' : T.vm.method? m = some meth := X.method'
  refine ⟨T.setFrames fs, ?_, .returned (some (.int 1)), hrun, hended, rfl, ⟨_, rfl⟩, hW, hframe⟩
  jvm_step X.here [X.here.top, hx, hb, hdg, hmeth', hr, ret, narrow_b1]
  (try refine ⟨rfl, ?_⟩); (try refine ⟨rfl, ?_⟩)
  first | (intro acts; rw [hret _ acts rfl rfl rfl]) | rw [hret _ _ rfl rfl rfl]
  exact Steps.refl _
section
variable {p : Program} {l : Launch} {e : Env} {s : State} {m : MethodId} {below : List Frame} {meth : Method} {c : Code} {b L : Nat} {xs : Nat → Int32} {E : GE}
set_option maxRecDepth 100000 in
set_option maxHeartbeats 4000000 in
theorem law_loop (hlt : l.stackTraces = false) (hc : LW E p s m meth c b L xs) : ∀ (d t : Nat) (S : GS) (H : Heap) (locs : List Loc) (ls : Array Slot), L + 7 ≤ 7 * t + 7 * d → 7 * t ≤ L + 7 → IV S → GX E S H locs → lv_has ls 7 (lvs E b t) → W p l e room_1 s m #[Value.ref b] below meth c H locs (88 + t) (5700 + 6 * t) (lw_Z below #[Value.ref b] s) (F0 m 23 ls [])
  | d, t, S, H, locs, ls, hd, ht, hI, hG, hl => by
    obtain ⟨⟨hx, hb, hml, hr, hlk, hown, hts, hK, -⟩, hT, hE, hX, hbl, h35⟩ := id hc
    have hS := hG.2
    rw [hE] at hS
    refine lv_iload hx hb dL_law_23 (lv_at hl 4 rfl) ?_
    refine lv_aload_n hx hb dL_law_25 rfl (lv_at hl 0 rfl) ?_
    refine va_slen hx hb hX hbl (Nat.not_le.mpr hbl) hS dL_law_26 ?_
    refine lv_bipush (v := nI 7) hx hb dL_law_27 (by decide) ?_
    refine lv_isub hx hb dL_law_29 ?_
    have key : (Int32.ofNat L - nI 7 < nI (7 * t)) ↔ L < 7 * t + 7 := by
      rw [fa_lt, show Int32.ofNat L - nI 7 = nI L - nI 7 from rfl, pk_sub_toInt (by omega) (by omega), nI_toInt (by omega)]
      omega
    refine lv_icmp_gt (tgt := 1427) hx hb dL_law_30 (by decide) (fun q => ?_) (fun q => ?_)
    · have hq := key.mp q
      refine lv_iconst (v := (1 : Int32)) hx hb dL_law_1427 (by decide) ?_
      refine va_forget (fun q hq => by have := hG.2.2.2 q hq; rw [hE] at this; exact this) ?_
      exact W.widen (k := 1114) (n := 13904) (by omega) (by omega) (lw_ret hx hb hr hlk dL_law_1428)
    · have hq : 7 * t + 7 ≤ L := Nat.le_of_not_lt fun z => q (key.mpr z)
      cases d with
      | zero => omega
      | succ d =>
      refine lv_aload_n hx hb dL_law_33 rfl (lv_at hl 0 rfl) ?_
      refine lv_iload hx hb dL_law_34 (lv_at hl 4 rfl) ?_
      refine va_sld hx hb hX hbl (Nat.not_le.mpr hbl) hS (vp_in_nI (by omega) (by omega)) dL_law_36 ?_
      refine lv_bipush (v := nI 31) hx hb dL_law_37 (by decide) ?_
      refine lv_iand hx hb dL_law_39 ?_
      have go : ∀ (S1 : GS) (H1 : Heap) (locs1 : List Loc) (ls1 : Array Slot), IV S1 → GX E S1 H1 locs1 → lv_has ls1 7 (lvs E b t) → W p l e room_1 s m #[Value.ref b] below meth c H1 locs1 (88 + t + 1) (5700 + 6 * t + 6) (lw_Z below #[Value.ref b] s) (F0 m 1421 ls1 []) := by
        intro S1 H1 locs1 ls1 hI hG hl
        refine lv_iinc (v := nI (7 * (t + 1))) (lv' := [(4, .int (nI (7 * (t + 1)))), (0, .ref b), (1, gR E 0), (2, gR E 54), (3, gR E 87)]) hx hb dL_law_1421 hl (k := 4) rfl (nI_add (7 * t) 7) (by decide) rfl (fun ls hl => ?_)
        refine lv_goto (tgt := 23) hx hb dL_law_1424 (by decide) ?_
        exact law_loop hlt hc d (t + 1) S1 H1 locs1 ls (by omega) (by omega) hI hG (lv_sub hl [1, 2, 3, 4, 0] rfl)
      have go' : ∀ (S1 : GS) (H1 : Heap) (locs1 : List Loc), IV S1 → GX E S1 H1 locs1 → W p l e room_1 s m #[Value.ref b] below meth c H1 locs1 (88 + t) (5700 + 6 * t) (lw_Z below #[Value.ref b] s) (F0 m 1421 ls []) := fun S1 H1 locs1 hI hG => W.widen (k := 88 + t + 1) (n := 5700 + 6 * t + 6) (by omega) (by omega) (go S1 H1 locs1 ls hI hG hl)
      have hcs : 88 + t ≤ room_1.cells ∧ 5700 + 6 * t ≤ room_1.slots := ⟨by show 88 + t ≤ 1114; omega, by show 5700 + 6 * t ≤ 13904; omega⟩
      have hcs1 : 88 + t + 1 ≤ room_1.cells ∧ 5700 + 6 * t + 6 ≤ room_1.slots := ⟨by show 88 + t + 1 ≤ 1114; omega, by show 5700 + 6 * t + 6 ≤ 13904; omega⟩
      generalize (xs (nI (7 * t)).toNatClampNeg &&& nI 31) = z
      by_cases ho : z.toInt < 0 ∨ 23 < z.toInt
      · exact lv_tableOut (tgt := 1421) hx hb dL_law_40 ho (by decide) (go' S H locs hI hG)
      · have hz0 : ¬ z < 0 := fun q => ho (Or.inl (by rw [fa_lt] at q; exact q))
        obtain ⟨j, hj, rfl⟩ := nI_of hz0
        have hj23 : j ≤ 23 := by
          rw [nI_toInt hj] at ho
          omega
        rcases (show j = 0 ∨ j = 1 ∨ j = 2 ∨ j = 3 ∨ j = 4 ∨ j = 5 ∨ j = 6 ∨ j = 7 ∨ j = 8 ∨ j = 9 ∨ j = 10 ∨ j = 11 ∨ j = 12 ∨ j = 13 ∨ j = 14 ∨ j = 15 ∨ j = 16 ∨ j = 17 ∨ j = 18 ∨ j = 19 ∨ j = 20 ∨ j = 21 ∨ j = 22 ∨ j = 23 by omega) with rfl | rfl | rfl | rfl | rfl | rfl | rfl | rfl | rfl | rfl | rfl | rfl | rfl | rfl | rfl | rfl | rfl | rfl | rfl | rfl | rfl | rfl | rfl | rfl
        · refine lv_tableIn (off := 112) (tgt := 152) hx hb dL_law_40 (by decide) (by decide) (by decide) (by decide) ?_
          exact lc0 hc hI hG hl hq hcs go'
        · refine lv_tableIn (off := 185) (tgt := 225) hx hb dL_law_40 (by decide) (by decide) (by decide) (by decide) ?_
          exact lc1 hc hI hG hl hq hcs go'
        · refine lv_tableIn (off := 210) (tgt := 250) hx hb dL_law_40 (by decide) (by decide) (by decide) (by decide) ?_
          exact lc2 hc hI hG hl hq hcs go'
        · refine lv_tableIn (off := 235) (tgt := 275) hx hb dL_law_40 (by decide) (by decide) (by decide) (by decide) ?_
          exact lc3 hc hI hG hl hq hcs go'
        · refine lv_tableIn (off := 260) (tgt := 300) hx hb dL_law_40 (by decide) (by decide) (by decide) (by decide) ?_
          exact lc4 hc hI hG hl hq hcs go'
        · refine lv_tableIn (off := 297) (tgt := 337) hx hb dL_law_40 (by decide) (by decide) (by decide) (by decide) ?_
          exact lc5 hc hI hG hl hq hcs go'
        · refine lv_tableIn (off := 310) (tgt := 350) hx hb dL_law_40 (by decide) (by decide) (by decide) (by decide) ?_
          exact lc6 hc hI hG hl hq hcs go'
        · refine lv_tableIn (off := 375) (tgt := 415) hx hb dL_law_40 (by decide) (by decide) (by decide) (by decide) ?_
          exact lc7 hc hI hG hl hq hcs go'
        · refine lv_tableIn (off := 436) (tgt := 476) hx hb dL_law_40 (by decide) (by decide) (by decide) (by decide) ?_
          exact lc8 hc hI hG hl hq hcs go'
        · refine lv_tableIn (off := 525) (tgt := 565) hx hb dL_law_40 (by decide) (by decide) (by decide) (by decide) ?_
          exact lc9 hc hI hG hl hq hcs go'
        · refine lv_tableIn (off := 586) (tgt := 626) hx hb dL_law_40 (by decide) (by decide) (by decide) (by decide) ?_
          exact lc10 hc hI hG hl hq hcs go'
        · refine lv_tableIn (off := 651) (tgt := 691) hx hb dL_law_40 (by decide) (by decide) (by decide) (by decide) ?_
          exact lc11 hc hI hG hl hq hcs go'
        · refine lv_tableIn (off := 688) (tgt := 728) hx hb dL_law_40 (by decide) (by decide) (by decide) (by decide) ?_
          exact lc12 hc hI hG hl hq hcs go'
        · refine lv_tableIn (off := 713) (tgt := 753) hx hb dL_law_40 (by decide) (by decide) (by decide) (by decide) ?_
          exact lc13 hc hI hG hl hq hcs go'
        · refine lv_tableIn (off := 786) (tgt := 826) hx hb dL_law_40 (by decide) (by decide) (by decide) (by decide) ?_
          exact lc14 hc hI hG hl hq hcs go'
        · refine lv_tableIn (off := 859) (tgt := 899) hx hb dL_law_40 (by decide) (by decide) (by decide) (by decide) ?_
          exact lc15 hc hI hG hl hq hcs go'
        · refine lv_tableIn (off := 932) (tgt := 972) hx hb dL_law_40 (by decide) (by decide) (by decide) (by decide) ?_
          exact lc16 hc hI hG hl hq hcs go'
        · refine lv_tableIn (off := 1019) (tgt := 1059) hx hb dL_law_40 (by decide) (by decide) (by decide) (by decide) ?_
          exact lc17 hc hI hG hl hq hcs go'
        · refine lv_tableIn (off := 1080) (tgt := 1120) hx hb dL_law_40 (by decide) (by decide) (by decide) (by decide) ?_
          exact lc18 hc hI hG hl hq hcs go'
        · refine lv_tableIn (off := 1117) (tgt := 1157) hx hb dL_law_40 (by decide) (by decide) (by decide) (by decide) ?_
          exact lc19 hc hI hG hl hq hcs go'
        · refine lv_tableIn (off := 1178) (tgt := 1218) hx hb dL_law_40 (by decide) (by decide) (by decide) (by decide) ?_
          exact lc20 hc hI hG hl hq hcs go'
        · refine lv_tableIn (off := 1251) (tgt := 1291) hx hb dL_law_40 (by decide) (by decide) (by decide) (by decide) ?_
          exact lc21 hc hI hG hl hq hcs go'
        · refine lv_tableIn (off := 1288) (tgt := 1328) hx hb dL_law_40 (by decide) (by decide) (by decide) (by decide) ?_
          exact lc22 hlt hc hI hG hl hq hcs1 go
        · refine lv_tableIn (off := 1356) (tgt := 1396) hx hb dL_law_40 (by decide) (by decide) (by decide) (by decide) ?_
          exact lc23 hc hI hG hl hq hcs go'
end

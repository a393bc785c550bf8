/-! the law's loop: generic rows -/
def LW (E : GE) (p : Program) (s : State) (m : MethodId) (meth : Method) (c : Code) (b L : Nat) (xs : Nat → Int32) : Prop := GM E p s m #[Value.ref b] meth c RL cL_law 7 (some .boolean) ∧ GT E s ∧ E.1 = s.heap ∧ va_X b L xs s s.heap ∧ b < s.heap.size ∧ L ≤ 3584
abbrev lvs (E : GE) (b t : Nat) : List (Nat × Value) := [(0, .ref b), (1, gR E 0), (2, gR E 54), (3, gR E 87), (4, .int (nI (7 * t)))]
section
variable {p : Program} {l : Launch} {e : Env} {s : State} {m : MethodId} {below : List Frame} {meth : Method} {c : Code} {b L t : Nat} {xs : Nat → Int32} {H : Heap} {locs : List Loc} {cells slots : Nat} {Q : State → Prop}
variable {E : GE} {S : GS} {ls : Array Slot} {rest : List Value} {pc : Nat}
theorem l_arg (hc : LW E p s m meth c b L xs) (hG : GX E S H locs) (hl : lv_has ls 7 (lvs E b t)) {k : Nat} {ki : Int} (hk : k < 7) (hki : Int32.ofInt ki = nI k) (hL : 7 * t + 7 ≤ L)
    (d0 : decode cL_law pc = .ok (.aload_n 0, 1)) (d1 : decode cL_law (pc + 1) = .ok (.iload 4, 2)) (d3 : decode cL_law (pc + 1 + 2) = .ok (.iconst ki, 1)) (d4 : decode cL_law (pc + 1 + 2 + 1) = .ok (.iadd, 1)) (d5 : decode cL_law (pc + 1 + 2 + 1 + 1) = .ok (.iaload, 1))
    (kk : W p l e room_1 s m #[Value.ref b] below meth c H locs cells slots Q (F0 m (pc + 1 + 2 + 1 + 1 + 1) ls (.int (xs (7 * t + k)) :: rest))) : W p l e room_1 s m #[Value.ref b] below meth c H locs cells slots Q (F0 m pc ls rest) := by
  obtain ⟨⟨hx, hb, -⟩, hT, hE, hX, hbl, h35⟩ := hc
  refine lv_aload_n hx hb d0 rfl (lv_at hl 0 rfl) ?_
  refine lv_iload hx hb d1 (lv_at hl 4 rfl) ?_
  refine lv_iconst (v := nI k) hx hb d3 hki ?_
  refine lv_iadd hx hb d4 ?_
  have hS := hG.2
  rw [hE] at hS
  rw [nI_add]
  refine va_sld hx hb hX hbl (Nat.not_le.mpr hbl) hS (vp_in_nI (by omega) (by omega)) d5 ?_
  rw [nI_clamp (by omega)]
  exact kk
theorem l_argB (hc : LW E p s m meth c b L xs) (hG : GX E S H locs) (hl : lv_has ls 7 (lvs E b t)) {k : Nat} {ki : Int} (hk : k < 7) (hki : (Int8.ofInt ki).toInt32 = nI k) (hL : 7 * t + 7 ≤ L)
    (d0 : decode cL_law pc = .ok (.aload_n 0, 1)) (d1 : decode cL_law (pc + 1) = .ok (.iload 4, 2)) (d3 : decode cL_law (pc + 1 + 2) = .ok (.bipush ki, 2)) (d4 : decode cL_law (pc + 1 + 2 + 2) = .ok (.iadd, 1)) (d5 : decode cL_law (pc + 1 + 2 + 2 + 1) = .ok (.iaload, 1))
    (kk : W p l e room_1 s m #[Value.ref b] below meth c H locs cells slots Q (F0 m (pc + 1 + 2 + 2 + 1 + 1) ls (.int (xs (7 * t + k)) :: rest))) : W p l e room_1 s m #[Value.ref b] below meth c H locs cells slots Q (F0 m pc ls rest) := by
  obtain ⟨⟨hx, hb, -⟩, hT, hE, hX, hbl, h35⟩ := hc
  refine lv_aload_n hx hb d0 rfl (lv_at hl 0 rfl) ?_
  refine lv_iload hx hb d1 (lv_at hl 4 rfl) ?_
  refine lv_bipush (v := nI k) hx hb d3 hki ?_
  refine lv_iadd hx hb d4 ?_
  have hS := hG.2
  rw [hE] at hS
  rw [nI_add]
  refine va_sld hx hb hX hbl (Nat.not_le.mpr hbl) hS (vp_in_nI (by omega) (by omega)) d5 ?_
  rw [nI_clamp (by omega)]
  exact kk
theorem l_bool (hc : LW E p s m meth c b L xs) {v : Int32} (d0 : decode cL_law pc = .ok (.ifCond .eq 7, 3)) (d3 : decode cL_law (pc + 3) = .ok (.iconst 1, 1)) (d4 : decode cL_law (pc + 3 + 1) = .ok (.goto 4, 3)) (d7 : decode cL_law (pc + 7) = .ok (.iconst 0, 1))
    (kk : W p l e room_1 s m #[Value.ref b] below meth c H locs cells slots Q (F0 m (pc + 7 + 1) ls (.int (if v = 0 then 0 else 1) :: rest))) : W p l e room_1 s m #[Value.ref b] below meth c H locs cells slots Q (F0 m pc ls (.int v :: rest)) := by
  obtain ⟨⟨hx, hb, -⟩, -⟩ := hc
  refine lv_if_eq (tgt := pc + 7) hx hb d0 (by omega) (fun h => ?_) (fun h => ?_)
  · rw [if_pos h] at kk
    exact lv_iconst (v := (0 : Int32)) hx hb d7 (by decide) kk
  · rw [if_neg h] at kk
    refine lv_iconst (v := (1 : Int32)) hx hb d3 (by decide) ?_
    exact lv_goto (tgt := pc + 7 + 1) hx hb d4 (by omega) kk
theorem g_ranN {mc ms : Nat} {R : Room} {args : Array Value} {S' : GS} {v : Option Value} {st0 : List Value} {av : List Value} (hr : va_Run p l e R s m args below meth c H locs cells slots mc ms (F0 m pc ls st0) rest (gQ E v S' av.toArray) (gF E)) (hG : GX E S H locs)
    (kk : ∀ (H1 : Heap) (locs1 : List Loc), GX E S' H1 locs1 → W p l e R s m args below meth c H1 locs1 (cells + mc) (slots + ms) Q (F0 m (pc + 3) ls (v.toList ++ rest))) : W p l e R s m args below meth c H locs cells slots Q (F0 m pc ls st0) := by
  intro T hT X
  obtain ⟨w, st₀, t, T', L, h0, X', hL, e1, e2, ⟨hv, hX⟩, st⟩ := hr T hT X
  cases hv
  obtain ⟨t2, a1, b1⟩ := kk T'.heap (locs ++ L) (by
    rw [e1]
    exact ⟨hX.1, hX.2.1, hX.2.2.1, fun q hq => (List.mem_append.mp hq).elim (hG.2.2.2 q) (hL q)⟩) T' rfl X'
  exact ⟨t2, st t2 a1, b1⟩
end
theorem both_pure {S : GS} {f : GS → Option Int32} {m : GS → Option (Int32 × GS)} (h : Both S (fun S => gbv (f S) fun r => some (r, S)) m) : ∃ r S2, f S = some r ∧ m S = some (r, S2) ∧ IV S2 := by
  obtain ⟨r, S1, S2, h1, h2, h3⟩ := h
  cases q : f S with
  | none =>
    have h1' : gbv (f S) (fun r => some (r, S)) = some (r, S1) := h1
    rw [q] at h1'
    cases h1'
  | some r' =>
    have h1' : gbv (f S) (fun r => some (r, S)) = some (r, S1) := h1
    rw [q] at h1'
    cases h1'
    exact ⟨r, S2, rfl, h2, h3⟩

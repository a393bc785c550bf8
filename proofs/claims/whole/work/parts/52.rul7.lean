/-! a line of the rules, on both sides -/
def wXl (s k j : Nat) : Bool := decide (s ≤ k ∧ k ≤ s + 4) || ((k == 31 && (j == 0 || (j == 1 || (j == 5 || j == 6)))) || (wT k j || k == 34))
def wMl (k j : Nat) : Bool := (k == 54 && (j == 8 || (decide (10 ≤ j ∧ j ≤ 12) || (decide (14 ≤ j ∧ j ≤ 19) || (j == 22 || (j == 24 || j == 25)))))) || (((k == 56 || k == 57) && decide (128 ≤ j)) || (((k == 58 || k == 59) && decide (2 ≤ j)) || k == 60))
theorem wF_l {s f : Nat} (hs : SF s f) (k j : Nat) (h : wXF s f k j = true) : wXl s k j = true := by
  have hf : f = s + 1 ∨ f = s + 3 := by unfold SF at hs; omega
  cases hT : wT k j
  · simp [wXF, wXf, hT] at h
    simp [wXl, hT]
    omega
  · simp [wXl, hT]
theorem wG_l {w : Nat} (hw : w < 2) (k j : Nat) (h : wMF w k j = true) : wMl k j = true := by
  simp [wMF, wMf, wN] at h
  simp [wMl]
  omega
theorem wT_l {s : Nat} (k j : Nat) (h : wT k j = true) : wXl s k j = true := by simp [wXl, h]
theorem wN_l (k j : Nat) (h : wN k j = true) : wMl k j = true := by
  simp [wN] at h
  simp [wMl]
  omega
def wXt (k j : Nat) : Bool := (k == 31 && (j == 0 || j == 1)) || wT k j
def wMt (k j : Nat) : Bool := (k == 54 && (j == 11 || (j == 18 || j == 19))) || wN k j
def wMu (k j : Nat) : Bool := (k == 54 && j == 11) || wN k j
theorem wXt_l {s : Nat} (k j : Nat) (h : wXt k j = true) : wXl s k j = true := by
  cases hT : wT k j
  · simp [wXt, hT] at h
    simp [wXl, hT]
    omega
  · simp [wXl, hT]
theorem wMt_l (k j : Nat) (h : wMt k j = true) : wMl k j = true := by
  simp [wMt, wN] at h
  simp [wMl]
  omega
section
variable {S Sx Sm : GS} {q n : Nat} {u : Nat → Nat}
theorem x_150 (h : VwX S u n q) : ∃ S', fX6_readLine_150 S = some ((), S') ∧ Wr wT S S' ∧ VwX S' u n (kTq u n q) := by
  obtain ⟨S', b1, b2, b3⟩ := h.ad
  exact ⟨S', by unfold fX6_readLine_150; rw [b1, gbd_s], b2, b3⟩
theorem x_127f (h : VwX S u n q) (hk : ¬ S.1 31 0 = 0) : ∃ S', fX6_readLine_127 S = some ((), S') ∧ Wr wT S S' := by
  obtain ⟨S', b1, b2, -⟩ := x_150 h
  exact ⟨S', by unfold fX6_readLine_127; rw [if_neg hk, b1], b2⟩
theorem tail (hvx : VwX Sx u n q) (hvm : VwM Sm u n q) (h0 : Sx.1 31 0 = 0) (h18 : Sm.1 54 18 = 0) : ∃ Sx' Sm', fX6_readLine_127 Sx = some ((), Sx') ∧ fX11_lineOf_146 Sm = some ((), Sm') ∧ Wr wXt Sx Sx' ∧ Wr wMt Sm Sm' ∧ ((∃ k p, FL k p Sx' Sm') ∨ (kTt u n q = 4 ∧ Wr wT Sx Sx' ∧ Wr wMu Sm Sm' ∧ Sm'.1 54 11 = Sm.1 54 11 + 1 ∧ VwX Sx' u n (kTq u n q) ∧ VwM Sm' u n (kTq u n q))) := by
  have rng := (tok_rng (u := u) hvx.2.2.2.2).2.2.2.2.2
  have rng1 : 1 ≤ kTt u n q ∧ kTt u n q ≤ 30 := ⟨rng.1, rng.2.1⟩
  by_cases e : kTt u n q = 4
  · obtain ⟨X, a1, a2, a3⟩ := x_150 hvx
    obtain ⟨M, b1, b2, b3⟩ := hvm.nx
    have wu : Wr wMu Sm (gsi M 54 11 (Sm.1 54 11 + 1)) := (b2.mo fun k j h => by simp [wMu, h]).si (by simp [wMu]) _
    refine ⟨X, gsi M 54 11 (Sm.1 54 11 + 1), ?_, ?_, a2.mo fun k j h => by simp [wXt, h], wu.mo fun k j h => ?_, Or.inr ⟨e, a2, wu, gsi_s, a3, Wr.vm b3 fun a b h => by rw [gsi_n (by omega)]⟩⟩
    · unfold fX6_readLine_127
      rw [if_pos h0, hvx.2.1, e, if_pos (show nI 4 = (4 : Int32) from rfl), a1]
    · unfold fX11_lineOf_146 fX11_lineOf_175
      rw [if_pos h18, m_is59 hvm rng1, e, gbv_s, if_neg (by decide), b1, gbd_s, glet_s, b2.2 54 11 rfl]
    · cases hN : wN k j
      · simp [wMu, hN] at h
        simp [wMt, hN, h]
      · simp [wMt, hN]
  · have hx : fX6_readLine_127 Sx = fX6_readLine_150 (gsi (gsi Sx 31 0 (nI 1)) 31 1 (nI (kTp u n q))) := by
      unfold fX6_readLine_127
      rw [if_pos h0, hvx.2.1, if_neg (show ¬ nI (kTt u n q) = (4 : Int32) from fun y => e ((nI_eq (b := 4) (by omega) (by decide)).mp y)), show (1 : Int32) = nI 1 from rfl, x_fail (a := 0) h0 hvx 1, gbd_s]
    obtain ⟨X, a1, a2, a3⟩ := x_150 (hvx.flt (nI 1) (nI (kTp u n q)))
    refine ⟨X, gsi (gsi (gsi Sm 54 18 (nI 1)) 54 19 (nI (kTp u n q))) 54 11 (Sm.1 54 11 + 1), hx.trans a1, ?_, ((Wr.rf.si (by simp [wXt]) _).si (by simp [wXt]) _).tr (a2.mo fun k j h => by simp [wXt, h]), ((Wr.rf.si (by simp [wMt]) _).si (by simp [wMt]) _).si (by simp [wMt]) _, Or.inl ⟨1, kTp u n q, ?_, ?_, ?_, ?_, by decide, by decide⟩⟩
    · unfold fX11_lineOf_146 fX11_lineOf_175
      rw [if_pos h18, m_is59 hvm rng1, decide_eq_false e, gbv_s, if_pos (by decide), show (1 : Int32) = nI 1 from rfl, m_wrong h18 hvm 1, gbd_s, glet_s, gsi_n (by omega), gsi_n (by omega)]
    · rw [a2.2 31 0 rfl, gsi_n (by omega), gsi_s]
    · rw [a2.2 31 1 rfl, gsi_s]
    · rw [gsi_n (by omega), gsi_n (by omega), gsi_s]
    · rw [gsi_n (by omega), gsi_s]
end
/-- a formula as it is told so far -/
def LVf (f w : Nat) (b : Bool) (Sx Sm : GS) : Prop := ∃ m, m ≤ 64 ∧ Sx.1 f 1 = nI m ∧ Sm.1 58 (2 + w) = nI m ∧ (b = false → m = 0) ∧ (b = true → (∀ i, i < m → gKn (Sx.1 (f + 1) i) (Sm.1 56 (64 * (2 + w) + i)) (Sm.1 57 (64 * (2 + w) + i))) ∧ gHt2 (Sx.1 (f + 1)) m = some 1)
def LB (s T : Nat) (Sx Sm : GS) : Prop := Sx.2.2 3 = s ∧ Sx.1 31 0 = 0 ∧ Sx.1 31 1 = -1 ∧ Sm.1 54 18 = 0 ∧ Sm.1 54 19 = -1 ∧ (∃ c, Sx.1 s 1 = nI c ∧ Sm.1 54 10 = nI c ∧ c ≤ 64) ∧ Sx.1 s 0 = Sm.1 54 11 ∧ (∃ d, Sx.1 s 2 = nI d ∧ Sm.1 54 8 = nI d ∧ 1 ≤ d ∧ d ≤ 9) ∧ T < 8 ∧ Sm.1 54 12 = nI T ∧ Sx.1 s 3 = gz (T.testBit 2) ∧ ∀ w, w < 2 → Sx.1 (s + 1 + 2 * w) 0 = gz (T.testBit w) ∧ Sm.1 59 (2 + w) = gz (T.testBit w) ∧ LVf (s + 1 + 2 * w) w (T.testBit w) Sx Sm
theorem LVf.fr {f w : Nat} {b : Bool} {Sx Sm Sx' Sm' : GS} (h : LVf f w b Sx Sm) (e1 : Sx'.1 f 1 = Sx.1 f 1) (e2 : ∀ i, Sx'.1 (f + 1) i = Sx.1 (f + 1) i) (e3 : Sm'.1 58 (2 + w) = Sm.1 58 (2 + w)) (e4 : ∀ i, i < 64 → Sm'.1 56 (64 * (2 + w) + i) = Sm.1 56 (64 * (2 + w) + i) ∧ Sm'.1 57 (64 * (2 + w) + i) = Sm.1 57 (64 * (2 + w) + i)) : LVf f w b Sx' Sm' := by
  obtain ⟨m, h1, h2, h3, h4, h5⟩ := h
  refine ⟨m, h1, e1.trans h2, e3.trans h3, h4, fun hb => ⟨fun i hi => ?_, ?_⟩⟩
  · rw [e2, (e4 i (by omega)).1, (e4 i (by omega)).2]
    exact (h5 hb).1 i hi
  · rw [show Sx'.1 (f + 1) = Sx.1 (f + 1) from funext e2]
    exact (h5 hb).2
theorem T_ops : ∀ T, T < 8 → ∀ w, w < 3 → ((((nI T) >>> (nI w &&& 31)) &&& (1 : Int32)) = 1 ↔ T.testBit w = true) ∧ ((nI T) ||| ((1 : Int32) <<< (nI w &&& 31))) = nI (T ||| 2 ^ w) ∧ (T ||| 2 ^ w) < 8 ∧ ∀ j, j < 3 → (T ||| 2 ^ w).testBit j = (T.testBit j || decide (j = w)) := by decide +kernel
theorem tok_L : ∀ t, t < 28 → 1 ≤ t → gSo t = 0 → ¬ gVl t 0 ≤ 2 ∧ 3 < t := by decide +kernel
theorem tok_W : ∀ w, w < 3 → gSo (28 + w) = 0 ∧ gVl (28 + w) 0 = nI w := by decide +kernel
theorem x_line32 {S : GS} {s t : Nat} (hs : s = 21 ∨ s = 26) (h3 : S.2.2 3 = s) (ht : S.1 32 3 = nI t) (h28 : 28 ≤ t) (h30 : t ≤ 30) (a1 : Int32) : fX6_readLine S a1 = fX6_readLine_55 S (if t = 28 then s + 1 else s + 3) a1 (nI t) := by
  have hg : gk s = 7 ∧ gr S.2.2 s 4 = s + 1 ∧ gr S.2.2 s 5 = s + 3 := by rcases hs with rfl | rfl <;> exact ⟨rfl, rfl, rfl⟩
  unfold fX6_readLine fX6_readLine_32
  rw [ht, glet_s, h3, hg.2.1, hg.2.2, if_pos hg.1, if_pos hg.1]
  rcases (show t = 28 ∨ t = 29 ∨ t = 30 by omega) with rfl | rfl | rfl
  · rw [if_pos (show nI 28 = (28 : Int32) from rfl), if_pos (show nI 28 = (28 : Int32) from rfl), if_pos rfl]
  · rw [if_neg (show ¬ nI 29 = (28 : Int32) by decide), if_pos (show nI 29 = (29 : Int32) from rfl), if_neg (show ¬ nI 29 = (28 : Int32) by decide), if_neg (by decide)]
  · rw [if_neg (show ¬ nI 30 = (28 : Int32) by decide), if_neg (show ¬ nI 30 = (29 : Int32) by decide), if_pos (show nI 30 = (30 : Int32) from rfl), if_neg (show ¬ nI 30 = (28 : Int32) by decide), if_neg (by decide)]
section
variable {Sx Sm : GS} {s w q n T : Nat} {u : Nat → Nat}
theorem m_lineX (hvm : VwM Sm u n q) (hw : w < 3) (ht : kTt u n q = 28 + w) (hT8 : T < 8) (h12 : Sm.1 54 12 = nI T) : fX11_lineOf Sm = if T.testBit w = true then gbd (fX11_wrong Sm (3 : Int32)) fun r23 S24 => (some ((), S24)) else gbd (fX11_next (gsi Sm 54 12 (nI (T ||| 2 ^ w)))) fun r7 S8 => (if nI w = (2 : Int32) then (if (S8.1 54 16) = (1 : Int32) then (if (S8.1 54 17) < (1 : Int32) then (fX11_lineOf_98 S8) else (if (S8.1 54 17) ≤ (9 : Int32) then (fX11_lineOf_103 S8) else (fX11_lineOf_98 S8))) else gbd (fX11_wrong S8 (1 : Int32)) fun r20 S21 => (fX11_lineOf_103 S21)) else glet (gsi S8 54 22 ((2 : Int32) + nI w)) fun S10 => (if gib (S10.1 54 22) 4 = true then glet (gsi S10 59 (((S10.1 54 22)).toNatClampNeg) (vp_nar .boolean (1 : Int32))) fun S12 => gbd (fX11_expression S12) fun r14 S15 => (fX11_lineOf_146 S15) else none)) := by
  obtain ⟨o1, o2, o3, o4⟩ := T_ops T hT8 w hw
  obtain ⟨w1, w2⟩ := tok_W w hw
  have hv : Sm.1 54 17 = nI w := by rw [hvm.2.2.2 (by omega), ht, gVl_ne (by omega) _ 0, w2]
  unfold fX11_lineOf
  rw [if_pos (show Sm.1 54 16 = 0 by rw [hvm.2.1, ht, w1]), hv, if_pos (show nI w ≤ (2 : Int32) from nI_le (b := 2) (by omega) (by decide)), glet_s, h12, o2, glet_s]
  by_cases e : T.testBit w = true
  · rw [if_pos (o1.mpr e), if_pos e]
  · rw [if_neg (fun z => e (o1.mp z)), if_neg e]
/-- what can't begin a line, or is told already -/
theorem line_flt {k : Nat} (hk1 : 1 ≤ k) (hk3 : k ≤ 3) (hvx : VwX Sx u n q) (hvm : VwM Sm u n q) (h0 : Sx.1 31 0 = 0) (h18 : Sm.1 54 18 = 0) (hx : fX6_readLine Sx (nI n) = gbd (fX6_fail Sx (nI k)) fun r6 S7 => (some ((), S7))) (hm : fX11_lineOf Sm = gbd (fX11_wrong Sm (nI k)) fun r6 S7 => (some ((), S7))) :
    ∃ Sx' Sm', fX6_readLine Sx (nI n) = some ((), Sx') ∧ fX11_lineOf Sm = some ((), Sm') ∧ Wr (wXl s) Sx Sx' ∧ Wr wMl Sm Sm' ∧ ∃ k p, FL k p Sx' Sm' := by
  refine ⟨_, _, by rw [hx, x_fail (a := 0) h0 hvx k, gbd_s], by rw [hm, m_wrong h18 hvm k, gbd_s], (Wr.rf.si (by simp [wXl]) _).si (by simp [wXl]) _, (Wr.rf.si (by simp [wMl]) _).si (by simp [wMl]) _, k, kTp u n q, ?_, gsi_s, ?_, gsi_s, hk1, hk3⟩
  · rw [gsi_n (by omega), gsi_s]
  · rw [gsi_n (by omega), gsi_s]
def LO (s n q : Nat) (u : Nat → Nat) (Sx Sm Sx' Sm' : GS) : Prop := Wr (wXl s) Sx Sx' ∧ Wr wMl Sm Sm' ∧ ((∃ k p, FL k p Sx' Sm') ∨ ∃ q' T', q < q' ∧ VwX Sx' u n q' ∧ VwM Sm' u n q' ∧ LB s T' Sx' Sm')
theorem line_frm (hs : s = 21 ∨ s = 26) (hw : w < 2) (hvx : VwX Sx u n q) (hvm : VwM Sm u n q) (hb : LB s T Sx Sm) (ht : kTt u n q = 28 + w) (hT : T.testBit w = false) :
    ∃ Sx' Sm', fX6_readLine Sx (nI n) = some ((), Sx') ∧ fX11_lineOf Sm = some ((), Sm') ∧ LO s n q u Sx Sm Sx' Sm' := by
  obtain ⟨l1, l2, l3, l4, l5, ⟨c, lc1, lc2, lc3⟩, l6, ⟨d, ld1, ld2, ld3, ld4⟩, l7, l8, l9, l10⟩ := hb
  obtain ⟨f, hf⟩ : ∃ f, f = s + 1 + 2 * w := ⟨_, rfl⟩
  have hsf : SF s f := by unfold SF; omega
  obtain ⟨n1, n2, n3⟩ := hsf.n
  obtain ⟨g1, g2, m0, g3, g4, g5, g6, -⟩ := l10 w hw
  rw [← hf] at g1 g4
  have hm0 : m0 = 0 := g6 hT
  subst hm0
  rw [hT] at g1 g2
  have rng := tok_rng (u := u) hvx.2.2.2.2
  have hq1 := rng.2.2.2.2.1 (by omega)
  have hqq : q < kTq u n q := by have := rng.1; omega
  -- the class up to the formula
  have hv2 : VwX (gsi Sx s 0 (Sx.1 s 0 + 1)) u n q := Wr.vx hvx rfl fun a b h => by rw [gsi_n (by omega)]
  obtain ⟨X1, a1, a2, a3⟩ := hv2.ad
  have hx : fX6_readLine Sx (nI n) = gbd (fX6_readFormula X1 f (nI n)) fun r8 S9 => (fX6_readLine_127 S9) := by
    rw [x_line32 hs l1 hvx.2.1 (by omega) (by omega), show (if kTt u n q = 28 then s + 1 else s + 3) = f by split <;> omega]
    unfold fX6_readLine_55 fX6_readLine_88
    have n30 : ¬ nI (kTt u n q) = (30 : Int32) := fun e => by have := (nI_eq (b := 30) (by omega) (by decide)).mp e; omega
    rw [if_neg n30, if_pos (form_cells hsf.f Sx.2.2).1, if_pos (by rw [g1]; rfl), l1, if_pos hsf.k, glet_s, a1, gbd_s, if_neg n30]
  obtain ⟨o1, o2, o3, o4⟩ := T_ops T l7 w (by omega)
  have hvm2 : VwM (gsi Sm 54 12 (nI (T ||| 2 ^ w))) u n q := Wr.vm hvm fun a b h => by rw [gsi_n (by omega)]
  obtain ⟨M1, b1, b2, b3⟩ := hvm2.nx
  have e2w : (2 : Int32) + nI w = nI (2 + w) := nI_add 2 w
  have hm : fX11_lineOf Sm = gbd (fX11_expression (gsi (gsi M1 54 22 (nI (2 + w))) 59 (2 + w) 1)) fun r14 S15 => (fX11_lineOf_146 S15) := by
    rw [m_lineX hvm (by omega) ht l7 l8, if_neg (by rw [hT]; decide), b1, gbd_s, if_neg (show ¬ nI w = (2 : Int32) from fun e => by have := (nI_eq (b := 2) (by omega) (by decide)).mp e; omega), e2w, glet_s, gsi_s, if_pos (gib_nI (by omega) (by decide)), nI_clamp (by omega), glet_s]
    rfl
  have mno : ∀ a b, wN a b = false → (a ≠ 54 ∨ b ≠ 12) → M1.1 a b = Sm.1 a b := fun a b h1 h2 => by rw [b2.2 a b h1, gsi_n h2]
  have xno : ∀ a b, a ≠ 32 → (a ≠ s ∨ b ≠ 0) → X1.1 a b = Sx.1 a b := fun a b h1 h2 => by rw [a2.2 a b (by simp [wT, h1]), gsi_n h2]
  obtain ⟨Sx', Sm', f1, f2, f3, f4, f5⟩ := formula (Sx := X1) (Sm := gsi (gsi M1 54 22 (nI (2 + w))) 59 (2 + w) 1) (c := c) hsf hw a3 (Wr.vm b3 fun a b h => by rw [gsi_n (by omega), gsi_n (by omega)]) (by rw [a2.1]; exact l1) (by rw [xno _ _ (by omega) (by omega)]; exact l2) (by rw [xno _ _ (by omega) (by omega)]; exact lc1) (by rw [xno _ _ (by omega) (by omega)]; exact g4) (by rw [gsi_n (by omega), gsi_n (by omega), mno _ _ rfl (by omega)]; exact l4) (by rw [gsi_n (by omega), gsi_n (by omega), mno _ _ rfl (by omega)]; exact lc2) (by rw [gsi_n (by omega), gsi_s]) (by rw [gsi_n (by omega), gsi_n (by omega), mno _ _ rfl (by omega)]; exact g5) lc3
  rw [f1, gbd_s] at hx
  rw [f2, gbd_s] at hm
  have wx1 : Wr (wXl s) Sx (gsi X1 f 0 1) := ((Wr.rf.si (by simp [wXl]) _).tr (a2.mo wT_l)).si (by simp [wXl]; omega) _
  have wm1 : Wr wMl Sm (gsi (gsi M1 54 22 (nI (2 + w))) 59 (2 + w) 1) := (((Wr.rf.si (by simp [wMl]) _).tr (b2.mo wN_l)).si (by simp [wMl]) _).si (by simp [wMl]) _
  have wx2 := wx1.tr (f3.mo (wF_l hsf))
  have wm2 := wm1.tr (f4.mo (wG_l hw))
  rcases f5 with ⟨x, p, q2, hF, hV⟩ | ⟨q2, q3, h1, h2, h3, h4, h5, h6, h7⟩ | ⟨wx3, wm3, q2, c', m', k1, k2, k3, k4, k5, k6, k7, k8, k9, k10, k11, k12, k13, k14, k15⟩
  · obtain ⟨F1, F2, F3, F4, F5, F6⟩ := hF
    have nz : ¬ nI x = 0 := nI_ne0 (by omega) (by omega)
    obtain ⟨X2, c1, c2⟩ := x_127f hV (by rw [F1]; exact nz)
    refine ⟨X2, Sm', hx.trans c1, ?_, wx2.tr (c2.mo wT_l), wm2, Or.inl ⟨x, p, (c2.2 31 0 rfl).trans F1, (c2.2 31 1 rfl).trans F2, F3, F4, F5, F6⟩⟩
    rw [hm]
    unfold fX11_lineOf_146
    rw [if_neg (by rw [F3]; exact nz)]
  · obtain ⟨X2, c1, c2⟩ := x_127f h3 (by rw [h1]; decide)
    have rng2 := (tok_rng (u := u) h7).2.2.2.2.2
    refine ⟨X2, gsi (gsi (gsi Sm' 54 18 (nI 1)) 54 19 (nI (kTp u n q2))) 54 11 (Sm'.1 54 11 + 1), hx.trans c1, ?_, wx2.tr (c2.mo wT_l), ((wm2.si (by simp [wMl]) _).si (by simp [wMl]) _).si (by simp [wMl]) _, Or.inl ⟨1, kTp u n q2, (c2.2 31 0 rfl).trans h1, (c2.2 31 1 rfl).trans h2, ?_, ?_, by decide, by decide⟩⟩
    · rw [hm]
      unfold fX11_lineOf_146 fX11_lineOf_175
      rw [if_pos h4, m_is59 h5 ⟨rng2.1, rng2.2.1⟩, decide_eq_false h6, gbv_s, if_pos (by decide), show (1 : Int32) = nI 1 from rfl, m_wrong h4 h5 1, gbd_s, glet_s, gsi_n (by omega), gsi_n (by omega)]
    · rw [gsi_n (by omega), gsi_n (by omega), gsi_s]
    · rw [gsi_n (by omega), gsi_s]
  · obtain ⟨X2, M2, c1, c2, c3, c4, c5⟩ := tail k3 k4 k6 k7
    refine ⟨X2, M2, hx.trans c1, hm.trans c2, wx2.tr (c3.mo wXt_l), wm2.tr (c4.mo wMt_l), ?_⟩
    rcases c5 with c5 | ⟨c5, c6, c7, c8, c9, c10⟩
    · exact Or.inl c5
    · have q4 : kTp u n q2 < kTq u n q2 := (tok_rng (u := u) k3.2.2.2.2).2.2.2.2.1 (by omega)
      have q5 := (tok_rng (u := u) k3.2.2.2.2).1
      -- what is unchanged
      have X32 : ∀ a b, a ≠ 32 → X2.1 a b = Sx'.1 a b := fun a b h => c6.2 a b (by simp [wT, h])
      have xo : ∀ a b, a ≠ 32 → a ≠ 34 → (a ≠ 31 ∨ b ≤ 1) → (a ≠ s ∨ 2 ≤ b) → (a ≠ f) → a ≠ f + 1 → X2.1 a b = Sx.1 a b := fun a b h1 h2 h3 h4 h5 h6 => by
        rw [X32 a b h1, wx3.2 a b (by simp [wXf, wT]; omega), gsi_n (by omega), xno a b h1 (by omega)]
      have MN : ∀ a b, wN a b = false → (a ≠ 54 ∨ b ≠ 11) → M2.1 a b = Sm'.1 a b := fun a b h1 h2 => c7.2 a b (by simp [wMu, h1]; omega)
      have mo : ∀ a b, wN a b = false → wMf w a b = false → (a ≠ 54 ∨ (b ≠ 11 ∧ b ≠ 12 ∧ b ≠ 22)) → (a ≠ 59 ∨ b ≠ 2 + w) → M2.1 a b = Sm.1 a b := fun a b h1 h2 h3 h4 => by
        rw [MN a b h1 (by omega), wm3.2 a b h2, gsi_n (by omega), gsi_n (by omega), mno a b h1 (by omega)]
      refine Or.inr ⟨kTq u n q2, T ||| 2 ^ w, by omega, c9, c10, by rw [c6.1]; exact k5, ?_, ?_, ?_, ?_, ⟨c', ?_, ?_, k10⟩, ?_, ⟨d, ?_, ?_, ld3, ld4⟩, o3, ?_, ?_, fun w' hw' => ⟨?_, ?_, ?_⟩⟩
      · rw [X32 _ _ (by decide)]; exact k6
      · rw [xo _ _ (by omega) (by omega) (by omega) (by omega) (by omega) (by omega)]; exact l3
      · rw [MN _ _ rfl (by omega)]; exact k7
      · rw [mo _ _ rfl (by simp [wMf, wN]) (by omega) (by omega)]; exact l5
      · rw [X32 _ _ (by omega)]; exact k8
      · rw [MN _ _ rfl (by omega)]; exact k9
      · rw [X32 _ _ (by omega), wx3.2 s 0 (by simp [wXf, wT]; omega), gsi_n (by omega), a2.2 s 0 (by simp [wT]), gsi_s, c8, wm3.2 54 11 (by simp [wMf, wN]), gsi_n (by omega), gsi_n (by omega), mno _ _ rfl (by omega), l6]
      · rw [xo _ _ (by omega) (by omega) (by omega) (by omega) (by omega) (by omega)]; exact ld1
      · rw [mo _ _ rfl (by simp [wMf, wN]) (by omega) (by omega)]; exact ld2
      · rw [MN _ _ rfl (by omega), wm3.2 54 12 (by simp [wMf, wN]), gsi_n (by omega), gsi_n (by omega), b2.2 54 12 rfl, gsi_s]
      · rw [xo _ _ (by omega) (by omega) (by omega) (by omega) (by omega) (by omega), o4 2 (by omega), decide_eq_false (by omega), Bool.or_false]; exact l9
      · rw [o4 w' (by omega)]
        by_cases e : w' = w
        · subst e
          rw [← hf, X32 _ _ (by omega), wx3.2 f 0 (by simp [wXf, wT]; omega), gsi_s, decide_eq_true rfl, Bool.or_true]; rfl
        · rw [decide_eq_false e, Bool.or_false, xo _ _ (by omega) (by omega) (by omega) (by omega) (by omega) (by omega)]; exact (l10 w' hw').1
      · rw [o4 w' (by omega)]
        by_cases e : w' = w
        · subst e
          rw [MN _ _ rfl (by omega), wm3.2 59 _ (by simp [wMf, wN]), gsi_s, decide_eq_true rfl, Bool.or_true]; rfl
        · rw [decide_eq_false e, Bool.or_false, mo _ _ rfl (by simp [wMf, wN]) (by omega) (by omega)]; exact (l10 w' hw').2.1
      · rw [o4 w' (by omega)]
        by_cases e : w' = w
        · subst e
          rw [← hf, decide_eq_true rfl, Bool.or_true]
          refine ⟨m', k11, ?_, ?_, fun z => (Bool.noConfusion z), fun _ => ⟨fun i hi => ?_, ?_⟩⟩
          · rw [X32 _ _ (by omega)]; exact k12
          · rw [MN _ _ rfl (by omega)]; exact k13
          · rw [X32 _ _ (by omega), MN _ _ rfl (by omega), MN _ _ rfl (by omega)]; exact k14 i hi
          · rw [show X2.1 (f + 1) = Sx'.1 (f + 1) from funext fun i => X32 _ _ (by omega)]; exact k15
        · rw [decide_eq_false e, Bool.or_false]
          refine (l10 w' hw').2.2.fr ?_ (fun i => ?_) ?_ (fun i hi => ⟨?_, ?_⟩)
          · exact xo _ _ (by omega) (by omega) (by omega) (by omega) (by omega) (by omega)
          · exact xo _ _ (by omega) (by omega) (by omega) (by omega) (by omega) (by omega)
          · exact mo _ _ rfl (by simp [wMf, wN]; omega) (by omega) (by omega)
          · exact mo _ _ rfl (by simp [wMf, wN]; omega) (by omega) (by omega)
          · exact mo _ _ rfl (by simp [wMf, wN]; omega) (by omega) (by omega)
end

/-! the line of doubts; any line; all lines -/
theorem gSo_1 : ∀ t, t < 31 → ((gSo t = 1 ↔ t = 3) ∧ (gSo t = 3 ↔ t = 1 ∨ t = 0 ∧ gSo 0 = 3)) := by decide +kernel
section
variable {Sx Sm : GS} {s w q n T : Nat} {u : Nat → Nat}
theorem dbl_flt {k : Nat} {X1 M1 : GS} (hk1 : 1 ≤ k) (hk3 : k ≤ 3) (hvx : VwX X1 u n q) (h0 : X1.1 31 0 = 0) (wx : Wr (wXl s) Sx X1) (wm : Wr wMl Sm M1)
    (hx : fX6_readLine Sx (nI n) = fX6_readLine_127 (gsi (gsi X1 31 0 (nI k)) 31 1 (nI (kTp u n q)))) (hm : fX11_lineOf Sm = fX11_lineOf_103 (gsi (gsi M1 54 18 (nI k)) 54 19 (nI (kTp u n q)))) (q0 : Nat) :
    ∃ Sx' Sm', fX6_readLine Sx (nI n) = some ((), Sx') ∧ fX11_lineOf Sm = some ((), Sm') ∧ LO s n q0 u Sx Sm Sx' Sm' := by
  have nz : ¬ nI k = 0 := nI_ne0 (by omega) (by omega)
  obtain ⟨X2, c1, c2⟩ := x_127f (hvx.flt (nI k) (nI (kTp u n q))) (by rw [gsi_n (by omega), gsi_s]; exact nz)
  refine ⟨X2, gsi (gsi (gsi M1 54 18 (nI k)) 54 19 (nI (kTp u n q))) 54 8 ((gsi (gsi M1 54 18 (nI k)) 54 19 (nI (kTp u n q))).1 54 17), hx.trans c1, ?_, ((wx.si (by simp [wXl]) _).si (by simp [wXl]) _).tr (c2.mo wT_l), ((wm.si (by simp [wMl]) _).si (by simp [wMl]) _).si (by simp [wMl]) _, Or.inl ⟨k, kTp u n q, ?_, ?_, ?_, ?_, hk1, hk3⟩⟩
  · rw [hm]
    unfold fX11_lineOf_103 fX11_lineOf_146
    have n18 : ¬ (gsi (gsi (gsi M1 54 18 (nI k)) 54 19 (nI (kTp u n q))) 54 8 ((gsi (gsi M1 54 18 (nI k)) 54 19 (nI (kTp u n q))).1 54 17)).1 54 18 = 0 := by rw [gsi_n (by omega), gsi_n (by omega), gsi_s]; exact nz
    rw [glet_s, if_neg n18, if_neg n18]
  · rw [c2.2 31 0 rfl, gsi_n (by omega), gsi_s]
  · rw [c2.2 31 1 rfl, gsi_s]
  · rw [gsi_n (by omega), gsi_n (by omega), gsi_s]
  · rw [gsi_n (by omega), gsi_s]
theorem line_dbl (hs : s = 21 ∨ s = 26) (hvx : VwX Sx u n q) (hvm : VwM Sm u n q) (hb : LB s T Sx Sm) (ht : kTt u n q = 30) (hT : T.testBit 2 = false) :
    ∃ Sx' Sm', fX6_readLine Sx (nI n) = some ((), Sx') ∧ fX11_lineOf Sm = some ((), Sm') ∧ LO s n q u Sx Sm Sx' Sm' := by
  obtain ⟨l1, l2, l3, l4, l5, ⟨c, lc1, lc2, lc3⟩, l6, ⟨d, ld1, ld2, ld3, ld4⟩, l7, l8, l9, l10⟩ := hb
  have hg7 : gk s = 7 := by rcases hs with rfl | rfl <;> rfl
  have hn := hvx.1.2.2.2.2.1
  have rng := tok_rng (u := u) hvx.2.2.2.2
  have hq1 := rng.2.2.2.2.1 (by omega)
  have hqq : q < kTq u n q := by have := rng.1; omega
  have hv2 : VwX (gsi Sx s 0 (Sx.1 s 0 + 1)) u n q := Wr.vx hvx rfl fun a b h => by rw [gsi_n (by omega)]
  obtain ⟨X1, a1, a2, a3⟩ := hv2.ad
  rw [hT] at l9
  have hx : fX6_readLine Sx (nI n) = gbd (fX6_readDoubts X1) fun r11 S12 => (fX6_readLine_127 S12) := by
    rw [x_line32 hs l1 hvx.2.1 (by omega) (by omega), ht]
    unfold fX6_readLine_55 fX6_readLine_88
    have p30 : nI 30 = (30 : Int32) := rfl
    rw [if_pos p30, l1, if_pos hg7, if_pos (by rw [l9]; rfl), if_pos hg7, glet_s, a1, gbd_s, if_pos p30]
  obtain ⟨o1, o2, o3, o4⟩ := T_ops T l7 2 (by omega)
  have hvm2 : VwM (gsi Sm 54 12 (nI (T ||| 2 ^ 2))) u n q := Wr.vm hvm fun a b h => by rw [gsi_n (by omega)]
  obtain ⟨M1, b1, b2, b3⟩ := hvm2.nx
  have hm := m_lineX (w := 2) hvm (by omega) ht l7 l8
  rw [if_neg (by rw [hT]; decide), b1, gbd_s, if_pos (show nI 2 = (2 : Int32) from rfl)] at hm
  have mno : ∀ a b, wN a b = false → (a ≠ 54 ∨ b ≠ 12) → M1.1 a b = Sm.1 a b := fun a b h1 h2 => by rw [b2.2 a b h1, gsi_n h2]
  have xno : ∀ a b, a ≠ 32 → (a ≠ s ∨ b ≠ 0) → X1.1 a b = Sx.1 a b := fun a b h1 h2 => by rw [a2.2 a b (by simp [wT, h1]), gsi_n h2]
  have x0 : X1.1 31 0 = 0 := by rw [xno _ _ (by omega) (by omega)]; exact l2
  have m18 : M1.1 54 18 = 0 := by rw [mno _ _ rfl (by omega)]; exact l4
  have wx1 : Wr (wXl s) Sx X1 := (Wr.rf.si (by simp [wXl]) _).tr (a2.mo wT_l)
  have wm1 : Wr wMl Sm M1 := (Wr.rf.si (by simp [wMl]) _).tr (b2.mo wN_l)
  have rng1 := tok_rng (u := u) a3.2.2.2.2
  have ts : kTt u n (kTq u n q) < 31 := by have := rng1.2.2.2.2.2.2.1; omega
  obtain ⟨Q, hQ⟩ : ∃ Q, Q = kTq u n q := ⟨_, rfl⟩
  rw [← hQ] at a3 b3 rng1 ts hqq
  have h16 : M1.1 54 16 = gSo (kTt u n Q) := b3.2.1
  by_cases t3 : kTt u n Q = 3
  · have hx5 := a3.2.2.2.1 t3
    have hx3 : X1.1 32 3 = (3 : Int32) := by rw [a3.2.1, t3]; rfl
    have hv1 : M1.1 54 17 = nI (kTn u n Q) := by rw [b3.2.2.2 (by omega), t3]; rfl
    have hn9 : kTn u n Q ≤ 99999 := gNv_le _ _ _ (Nat.le_refl _) (by decide)
    rw [if_pos (by rw [h16, t3]; decide), hv1] at hm
    unfold fX6_readDoubts at hx
    rw [if_pos hx3, hx5] at hx
    have bad : fX6_readLine Sx (nI n) = gbd (fX6_readDoubts_42 X1) (fun r11 S12 => (fX6_readLine_127 S12)) → fX11_lineOf Sm = fX11_lineOf_98 M1 → ∃ Sx' Sm', fX6_readLine Sx (nI n) = some ((), Sx') ∧ fX11_lineOf Sm = some ((), Sm') ∧ LO s n q u Sx Sm Sx' Sm' := by
      intro h1 h2
      unfold fX6_readDoubts_42 at h1
      unfold fX11_lineOf_98 at h2
      rw [show (2 : Int32) = nI 2 from rfl, x_fail (a := 0) x0 a3 2, gbd_s, gbd_s] at h1
      rw [show (2 : Int32) = nI 2 from rfl, m_wrong m18 b3 2, gbd_s] at h2
      exact dbl_flt (by decide) (by decide) a3 x0 wx1 wm1 h1 h2 q
    by_cases c1 : kTn u n Q < 1
    · rw [if_pos (show nI (kTn u n Q) < (1 : Int32) from nI_lt (b := 1) c1 (by decide))] at hx hm
      exact bad hx hm
    rw [if_neg (show ¬ nI (kTn u n Q) < (1 : Int32) from nI_nlt (b := 1) (by omega) (by omega))] at hx hm
    by_cases c9 : kTn u n Q ≤ 9
    · rw [if_pos (show nI (kTn u n Q) ≤ (9 : Int32) from nI_le (b := 9) c9 (by decide))] at hx hm
      have x3 : X1.2.2 3 = s := by rw [a2.1]; exact l1
      have hv3 : VwX (gsi (gsi X1 s 3 1) s 2 (nI (kTn u n Q))) u n Q := Wr.vx a3 rfl fun a b h => by rw [gsi_n (by omega), gsi_n (by omega)]
      obtain ⟨X2, d1, d2, d3⟩ := hv3.ad
      have hx' : fX6_readLine Sx (nI n) = fX6_readLine_127 X2 := by
        rw [hx, x3, if_pos hg7, glet_s, show (gsi X1 s 3 1).2.2 3 = s from x3, if_pos hg7, gsi_n (by omega), hx5, glet_s, d1, gbd_s, gbd_s]
      have hvm3 : VwM (gsi M1 54 8 (nI (kTn u n Q))) u n Q := Wr.vm b3 fun a b h => by rw [gsi_n (by omega)]
      obtain ⟨M2, e1, e2, e3⟩ := hvm3.nx
      have hm' : fX11_lineOf Sm = fX11_lineOf_146 M2 := by
        rw [hm]
        unfold fX11_lineOf_103
        rw [hv1, glet_s, if_pos (by rw [gsi_n (by omega)]; exact m18), e1, gbd_s]
      have xn2 : ∀ a b, a ≠ 32 → (a ≠ s ∨ (b ≠ 0 ∧ b ≠ 2 ∧ b ≠ 3)) → X2.1 a b = Sx.1 a b := fun a b h1 h2 => by
        rw [d2.2 a b (by simp [wT, h1]), gsi_n (by omega), gsi_n (by omega), xno a b h1 (by omega)]
      have mn2 : ∀ a b, wN a b = false → (a ≠ 54 ∨ (b ≠ 12 ∧ b ≠ 8)) → M2.1 a b = Sm.1 a b := fun a b h1 h2 => by
        rw [e2.2 a b h1, gsi_n (by omega), mno a b h1 (by omega)]
      obtain ⟨X3, M3, f1, f2, f3, f4, f5⟩ := tail d3 e3 (by rw [xn2 _ _ (by omega) (by omega)]; exact l2) (by rw [mn2 _ _ rfl (by omega)]; exact l4)
      have wx2 : Wr (wXl s) Sx X2 := ((wx1.si (by simp [wXl]) _).si (by simp [wXl]) _).tr (d2.mo wT_l)
      have wm2 : Wr wMl Sm M2 := (wm1.si (by simp [wMl]) _).tr (e2.mo wN_l)
      refine ⟨X3, M3, hx'.trans f1, hm'.trans f2, wx2.tr (f3.mo wXt_l), wm2.tr (f4.mo wMt_l), ?_⟩
      rcases f5 with f5 | ⟨f5, f6, f7, f8, f9, f10⟩
      · exact Or.inl f5
      · have q4 : kTp u n (kTq u n Q) < kTq u n (kTq u n Q) := (tok_rng (u := u) d3.2.2.2.2).2.2.2.2.1 (by omega)
        have q5 := (tok_rng (u := u) d3.2.2.2.2).1
        have q6 := rng1.1
        have q7 := rng1.2.2.1
        have xo : ∀ a b, a ≠ 32 → (a ≠ s ∨ (b ≠ 0 ∧ b ≠ 2 ∧ b ≠ 3)) → X3.1 a b = Sx.1 a b := fun a b h1 h2 => by rw [f6.2 a b (by simp [wT, h1]), xn2 a b h1 h2]
        have xs : ∀ b, X3.1 s b = X2.1 s b := fun b => f6.2 s b (by simp [wT]; omega)
        have mo : ∀ a b, wN a b = false → (a ≠ 54 ∨ (b ≠ 8 ∧ b ≠ 11 ∧ b ≠ 12)) → M3.1 a b = Sm.1 a b := fun a b h1 h2 => by rw [f7.2 a b (by simp [wMu, h1]; omega), mn2 a b h1 (by omega)]
        refine Or.inr ⟨kTq u n (kTq u n Q), T ||| 2 ^ 2, by omega, f9, f10, by rw [f6.1, d2.1]; exact x3, ?_, ?_, ?_, ?_, ⟨c, ?_, ?_, lc3⟩, ?_, ⟨kTn u n Q, ?_, ?_, by omega, c9⟩, o3, ?_, ?_, fun w' hw' => ⟨?_, ?_, ?_⟩⟩
        · rw [xo _ _ (by omega) (by omega)]; exact l2
        · rw [xo _ _ (by omega) (by omega)]; exact l3
        · rw [mo _ _ rfl (by omega)]; exact l4
        · rw [mo _ _ rfl (by omega)]; exact l5
        · rw [xo _ _ (by omega) (by omega)]; exact lc1
        · rw [mo _ _ rfl (by omega)]; exact lc2
        · rw [xs, d2.2 s 0 (by simp [wT]), gsi_n (by omega), gsi_n (by omega), a2.2 s 0 (by simp [wT]), gsi_s, f8, mn2 _ _ rfl (by omega), l6]
        · rw [xs, d2.2 s 2 (by simp [wT]; omega), gsi_s]
        · rw [f7.2 54 8 rfl, e2.2 54 8 rfl, gsi_s]
        · rw [f7.2 54 12 rfl, e2.2 54 12 rfl, gsi_n (by omega), b2.2 54 12 rfl, gsi_s]
        · rw [xs, d2.2 s 3 (by simp [wT]; omega), gsi_n (by omega), gsi_s, o4 2 (by omega), decide_eq_true rfl, Bool.or_true]; rfl
        · rw [o4 w' (by omega), decide_eq_false (by omega), Bool.or_false, xo _ _ (by omega) (by omega)]; exact (l10 w' hw').1
        · rw [o4 w' (by omega), decide_eq_false (by omega), Bool.or_false, mo _ _ rfl (by omega)]; exact (l10 w' hw').2.1
        · rw [o4 w' (by omega), decide_eq_false (by omega), Bool.or_false]
          exact (l10 w' hw').2.2.fr (xo _ _ (by omega) (by omega)) (fun i => xo _ _ (by omega) (by omega)) (mo _ _ rfl (by omega)) (fun i hi => ⟨mo _ _ rfl (by omega), mo _ _ rfl (by omega)⟩)
    · rw [if_neg (show ¬ nI (kTn u n Q) ≤ (9 : Int32) from nI_ge (a := 9) (by omega) (by omega))] at hx hm
      exact bad hx hm
  · rw [if_neg (by rw [h16]; exact fun e => t3 ((gSo_1 _ ts).1.mp e)), show (1 : Int32) = nI 1 from rfl, m_wrong m18 b3 1, gbd_s] at hm
    unfold fX6_readDoubts at hx
    rw [a3.2.1, if_neg (show ¬ nI (kTt u n Q) = (3 : Int32) from fun e => t3 ((nI_eq (b := 3) (by omega) (by decide)).mp e)), show (1 : Int32) = nI 1 from rfl, x_fail (a := 0) x0 a3 1, gbd_s, gbd_s] at hx
    exact dbl_flt (by decide) (by decide) a3 x0 wx1 wm1 hx hm q
theorem line (hs : s = 21 ∨ s = 26) (hvx : VwX Sx u n q) (hvm : VwM Sm u n q) (hb : LB s T Sx Sm) :
    ∃ Sx' Sm', fX6_readLine Sx (nI n) = some ((), Sx') ∧ fX11_lineOf Sm = some ((), Sm') ∧ LO s n q u Sx Sm Sx' Sm' := by
  have rng := (tok_rng (u := u) hvx.2.2.2.2).2.2.2.2.2
  have r1 := rng.1
  have r2 := rng.2.1
  have flt : ∀ k, 1 ≤ k → k ≤ 3 → fX6_readLine Sx (nI n) = (gbd (fX6_fail Sx (nI k)) fun r6 S7 => (some ((), S7))) → fX11_lineOf Sm = (gbd (fX11_wrong Sm (nI k)) fun r6 S7 => (some ((), S7))) → ∃ Sx' Sm', fX6_readLine Sx (nI n) = some ((), Sx') ∧ fX11_lineOf Sm = some ((), Sm') ∧ LO s n q u Sx Sm Sx' Sm' := by
    intro k h1 h2 hx hm
    obtain ⟨X, M, g1, g2, g3, g4, g5⟩ := line_flt (s := s) h1 h2 hvx hvm hb.2.1 hb.2.2.2.1 hx hm
    exact ⟨X, M, g1, g2, g3, g4, Or.inl g5⟩
  by_cases h28 : 28 ≤ kTt u n q
  · obtain ⟨w, hw⟩ : ∃ w, w = kTt u n q - 28 := ⟨_, rfl⟩
    have ht : kTt u n q = 28 + w := by omega
    cases hT : T.testBit w
    · by_cases h2 : w < 2
      · exact line_frm hs h2 hvx hvm hb ht hT
      · have : w = 2 := by omega
        subst this
        exact line_dbl hs hvx hvm hb ht hT
    · obtain ⟨l1, l2, l3, l4, l5, -, l6, -, l7, l8, l9, l10⟩ := id hb
      have hg7 : gk s = 7 := by rcases hs with rfl | rfl <;> rfl
      refine flt 3 (by decide) (by decide) ?_ ?_
      · rw [x_line32 hs l1 hvx.2.1 h28 r2]
        unfold fX6_readLine_55 fX6_readLine_82
        by_cases h2 : w < 2
        · have n30 : ¬ nI (kTt u n q) = (30 : Int32) := fun e => by have := (nI_eq (b := 30) (by omega) (by decide)).mp e; omega
          have ef : (if kTt u n q = 28 then s + 1 else s + 3) = s + 1 + 2 * w := by split <;> omega
          have hsf : SF s (s + 1 + 2 * w) := by unfold SF; omega
          rw [ef, if_neg n30, if_pos (form_cells hsf.f Sx.2.2).1, (l10 w h2).1, hT, if_neg (by decide)]
          rfl
        · have : w = 2 := by omega
          subst this
          rw [if_pos (show nI (kTt u n q) = (30 : Int32) by rw [ht]; rfl), l1, if_pos hg7, l9, hT, if_neg (by decide)]
          rfl
      · rw [m_lineX hvm (by omega) ht l7 l8, if_pos hT]
        rfl
  · refine flt 1 (by decide) (by decide) ?_ ?_
    · unfold fX6_readLine
      have ne : ∀ j : Nat, 28 ≤ j → j < 100 → ¬ nI (kTt u n q) = nI j := fun j h1 h2 e => by have := (nI_eq (by omega) (by omega)).mp e; omega
      rw [hvx.2.1, glet_s, if_neg (show ¬ nI (kTt u n q) = (28 : Int32) from ne 28 (by decide) (by decide)), if_neg (show ¬ nI (kTt u n q) = (29 : Int32) from ne 29 (by decide) (by decide)), if_neg (show ¬ nI (kTt u n q) = (30 : Int32) from ne 30 (by decide) (by decide))]
      rfl
    · unfold fX11_lineOf fX11_lineOf_15
      by_cases e0 : Sm.1 54 16 = 0
      · have g := tok_L _ (show kTt u n q < 28 by omega) r1 (by rw [← hvm.2.1]; exact e0)
        rw [if_pos e0, if_neg (show ¬ Sm.1 54 17 ≤ 2 by rw [hvm.2.2.2 (by omega), gVl_ne (by omega) _ 0]; exact g.1)]
        rfl
      · rw [if_neg e0]
        rfl
theorem read_loop (hs : s = 21 ∨ s = 26) : ∀ d q i Sx Sm T, n - q < d → i ≤ q → VwX Sx u n q → VwM Sm u n q → LB s T Sx Sm → ∃ Sx' Sm', (∀ N, d + 1 ≤ N → fX6_read_34 N Sx (nI n) (nI i) = some ((), Sx')) ∧ (∀ N, d + 1 ≤ N → fX11_rules_96 N Sm = fX11_rules_118 Sm') ∧ Wr (wXl s) Sx Sx' ∧ Wr wMl Sm Sm' ∧ ((∃ k p, FL k p Sx' Sm') ∨ ∃ T', LB s T' Sx' Sm')
  | 0, _, _, _, _, _, h, _, _, _, _ => absurd h (Nat.not_lt_zero _)
  | d + 1, q, i, Sx, Sm, T, hd, hi, hvx, hvm, hb => by
    have hqn := hvx.2.2.2.2
    have hn := hvx.1.2.2.2.2.1
    have rng := (tok_rng (u := u) hqn).2.2.2.2.2
    have r1 := rng.1
    have r2 := rng.2.1
    have il : ¬ nI n < nI i := nI_nlt (by omega) (by omega)
    have g3 := (gSo_1 (kTt u n q) (by omega)).2
    by_cases t1 : kTt u n q = 1
    · refine ⟨Sx, Sm, fun N hN => ?_, fun N hN => ?_, Wr.rf, Wr.rf, Or.inr ⟨T, hb⟩⟩
      · obtain ⟨N, rfl⟩ : ∃ M, N = M + 1 := ⟨N - 1, by omega⟩
        rw [fX6_read_34, if_neg il, if_pos hb.2.1, hvx.2.1, t1, if_pos (show nI 1 = (1 : Int32) from rfl)]
      · obtain ⟨N, rfl⟩ : ∃ M, N = M + 1 := ⟨N - 1, by omega⟩
        rw [fX11_rules_96, if_pos hb.2.2.2.1, hvm.2.1, t1, if_pos (by decide)]
    · obtain ⟨X1, M1, a1, a2, a3, a4, a5⟩ := line hs hvx hvm hb
      have hx : ∀ N, fX6_read_34 (N + 1) Sx (nI n) (nI i) = fX6_read_34 N X1 (nI n) (nI (i + 1)) := fun N => by
        rw [fX6_read_34, if_neg il, if_pos hb.2.1, hvx.2.1, if_neg (show ¬ nI (kTt u n q) = (1 : Int32) from fun e => t1 ((nI_eq (b := 1) (by omega) (by decide)).mp e)), a1, gbd_s, glet_s, nI_1]
      have hm : ∀ N, fX11_rules_96 (N + 1) Sm = fX11_rules_96 N M1 := fun N => by
        rw [fX11_rules_96, if_pos hb.2.2.2.1, hvm.2.1, if_neg (fun e => by have := g3.mp e; omega), a2, gbd_s]
      rcases a5 with ⟨k, p, F1, F2, F3, F4, F5, F6⟩ | ⟨q', T', b1, b2, b3, b4⟩
      · have nz : ¬ nI k = 0 := nI_ne0 (by omega) (by omega)
        refine ⟨X1, M1, fun N hN => ?_, fun N hN => ?_, a3, a4, Or.inl ⟨k, p, F1, F2, F3, F4, F5, F6⟩⟩
        · obtain ⟨N, rfl⟩ : ∃ M, N = M + 2 := ⟨N - 2, by omega⟩
          rw [show N + 2 = N + 1 + 1 from rfl, hx, fX6_read_34, F1, if_neg nz]
          split <;> rfl
        · obtain ⟨N, rfl⟩ : ∃ M, N = M + 2 := ⟨N - 2, by omega⟩
          rw [show N + 2 = N + 1 + 1 from rfl, hm, fX11_rules_96, F3, if_neg nz]
      · have hq' := b2.2.2.2.2
        obtain ⟨X2, M2, c1, c2, c3, c4, c5⟩ := read_loop hs d q' (i + 1) X1 M1 T' (by omega) (by omega) b2 b3 b4
        refine ⟨X2, M2, fun N hN => ?_, fun N hN => ?_, a3.tr c3, a4.tr c4, c5⟩
        · obtain ⟨N, rfl⟩ : ∃ M, N = M + 1 := ⟨N - 1, by omega⟩
          rw [hx, c1 N (by omega)]
        · obtain ⟨N, rfl⟩ : ∃ M, N = M + 1 := ⟨N - 1, by omega⟩
          rw [hm, c2 N (by omega)]
end

/-! the call rules: what holds behind it; look in the reference -/
def irl (k j : Nat) : Bool := decide (2 ≤ k ∧ k ≤ 20) || (decide (63 ≤ k ∧ k ≤ 76) || ((k == 54 && (j == 29 || (j == 30 || (j == 33 || (j == 35 || j == 41))))) || (k == 0 && j == 2)))
set_option maxHeartbeats 4000000 in
theorem IV_rul {f g : Nat → Nat → Int32} {r s r' s' : Nat} (h : IVm f r s) (e : ∀ k j, irl k j = true → g k j = f k j) (e1 : g 0 1 = 0) (e2 : g 54 2 = 0) (hr : IVr g r' s') (hf : IVf g) : IVm g r' s' := by
  obtain ⟨td, nt, nc, np, nk, nn, h1, h2, h3, h4, h5, h6, h7⟩ := h
  have x2 := fun i => e 2 i rfl; have e3 := fun i => e 3 i rfl; have e4 := fun i => e 4 i rfl
  have e5 := fun i => e 5 i rfl; have e6 := fun i => e 6 i rfl; have e7 := fun i => e 7 i rfl; have e8 := fun i => e 8 i rfl; have e9 := fun i => e 9 i rfl
  have e10 := fun i => e 10 i rfl; have e11 := fun i => e 11 i rfl; have e12 := fun i => e 12 i rfl; have e13 := fun i => e 13 i rfl; have e14 := fun i => e 14 i rfl
  have e15 := fun i => e 15 i rfl; have e16 := fun i => e 16 i rfl; have e17 := fun i => e 17 i rfl; have e18 := fun i => e 18 i rfl; have e19 := fun i => e 19 i rfl
  have e20 := fun i => e 20 i rfl
  have e63 := fun i => e 63 i rfl; have e64 := fun i => e 64 i rfl; have e65 := fun i => e 65 i rfl; have e66 := fun i => e 66 i rfl; have e67 := fun i => e 67 i rfl
  have e68 := fun i => e 68 i rfl; have e69 := fun i => e 69 i rfl; have e70 := fun i => e 70 i rfl; have e71 := fun i => e 71 i rfl; have e72 := fun i => e 72 i rfl
  have e73 := fun i => e 73 i rfl; have e74 := fun i => e 74 i rfl; have e75 := fun i => e 75 i rfl; have e76 := fun i => e 76 i rfl
  have f29 := e 54 29 rfl; have f30 := e 54 30 rfl; have f33 := e 54 33 rfl; have f35 := e 54 35 rfl; have f41 := e 54 41 rfl
  refine ⟨td, 0, nc, np, nk, nn, ?_, ?_, ?_, ?_, ?_, hr, hf⟩
  · obtain ⟨q1, q2, q3, -⟩ := h1
    exact ⟨by rw [e 0 2 rfl]; exact q1, by rw [f29]; exact q2, q3, e1, e2, by decide, by decide, fun i hi => absurd hi (Nat.not_lt_zero _)⟩
  · unfold IVc at h2 ⊢; simp only [x2, e3, e4, e63, e64, f30]; exact h2
  · unfold IVp at h3 ⊢; simp only [e5, e6, e65, f33]; exact h3
  · unfold IVk at h4 ⊢; unfold gLat at h4 ⊢; simp only [e7, e8, e9, e10, e11, e12, e13, e66, e67, e68, e69, e70, f35, gOi]; simpa only [gOi] using h4
  · unfold IVn IVn1 at h5 ⊢; unfold gLat at h5 ⊢; simp only [e9, e12, e14, e15, e16, e17, e18, e19, e20, e71, e72, e73, e74, e75, e76, f41]; exact h5
theorem IVl.fr {f g : Nat → Nat → Int32} {c w : Nat} (h : IVl f c w) (e1 : g 59 w = f 59 w) (e2 : g c 0 = f c 0) (e3 : g c 1 = f c 1) (e4 : g 58 w = f 58 w) (e5 : ∀ i, g (c + 1) i = f (c + 1) i) (e6 : ∀ i, i < 64 → g 56 (64 * w + i) = f 56 (64 * w + i) ∧ g 57 (64 * w + i) = f 57 (64 * w + i)) : IVl g c w := by
  obtain ⟨h1, h2⟩ := h
  refine ⟨by rw [e1, e2]; exact h1, ?_⟩
  rcases h2 with h2 | ⟨h2, n, h3, h4, h5, h6, h7⟩
  · exact Or.inl (by rw [e2]; exact h2)
  · refine Or.inr ⟨by rw [e2]; exact h2, n, h3, by rw [e3]; exact h4, by rw [e4]; exact h5, fun i hi => ?_, ?_⟩
    · rw [e5, (e6 i (by omega)).1, (e6 i (by omega)).2]; exact h6 i hi
    · rw [show g (c + 1) = f (c + 1) from funext e5]; exact h7
theorem call_rules {S : GS} (h : IV S) (a : Int32) : Both S (fun S => fX10_rules S a) (fun S => fX11_rules S a) := by
  obtain ⟨td, nt, nc, np, nk, nn, ht, hc, hp, hk, hn, hr, hf⟩ := id h
  obtain ⟨t1, t2, t3, t4, t5, t6, t7, t8⟩ := id ht
  have no : fX10_rules S a = some (-2, S) → fX11_rules S a = some (-2, gsi S 54 0 0) → Both S (fun S => fX10_rules S a) (fun S => fX11_rules S a) := fun h1 h2 => ⟨-2, S, _, h1, h2, IV_thr h 0⟩
  by_cases c1 : a < 0
  · exact no (by unfold fX10_rules; rw [if_pos c1]) (by unfold fX11_rules; rw [glet_s, if_pos c1])
  obtain ⟨j, hj, rfl⟩ := nI_of c1
  by_cases c2 : j ≤ nt
  · obtain ⟨r, er⟩ : ∃ r, r = S.2.2 0 := ⟨_, rfl⟩
    obtain ⟨s, es⟩ : ∃ s, s = S.2.2 1 := ⟨_, rfl⟩
    rw [← er, ← es] at hr
    have hs : s = 21 ∨ s = 26 := by rcases hr.1 with ⟨-, q⟩ | ⟨-, q⟩ <;> omega
    have hrs : (r = 21 ∧ s = 26) ∨ (r = 26 ∧ s = 21) := hr.1
    have hu : ∀ i, i < j → (S.1 1 i &&& 255).toNatClampNeg < 256 ∧ S.1 1 i = gby (S.1 1 i &&& 255).toNatClampNeg ∧ S.1 55 i = nI (S.1 1 i &&& 255).toNatClampNeg := by
      intro i hi
      obtain ⟨e, g⟩ := t8 i (by omega)
      obtain ⟨v, v1, v2, v3⟩ := gby_of g
      have ev : (S.1 1 i &&& 255).toNatClampNeg = v := by rw [v3, nI_clamp (by omega)]
      rw [ev]
      exact ⟨v1, v2, by rw [e, v3]⟩
    obtain ⟨X, x1, x2, x3, x4⟩ := x_start (S := gsi S 0 1 0) (s := s) (n := j) (u := fun i => (S.1 1 i &&& 255).toNatClampNeg) hs (by omega) (fun i hi => ⟨(hu i hi).1, by rw [gsi_n (by omega)]; exact (hu i hi).2.1⟩)
    obtain ⟨X', -, g1, -, g3, -⟩ := rules_run (S1 := S) hs x2 t5 t6 c2 (fun i hi => ⟨(hu i hi).1, (hu i hi).2.2⟩)
    have xf : ∀ a b, wXl s a b = false → a ≠ 31 → a ≠ 32 → X'.1 a b = (gsi S 0 1 0).1 a b := fun a b k1 k2 k3 => by
      have : a < s ∨ s + 4 < a := by
        refine Decidable.byContradiction fun q => ?_
        have : wXl s a b = true := by simp [wXl]; omega
        rw [this] at k1; cases k1
      rw [g3.2 a b k1, x4 a b k2 k3 this]
    have x54 : ∀ a b, 54 ≤ a → X'.1 a b = S.1 a b := fun a b k => by
      rw [xf a b (by simp [wXl, wT]; omega) (by omega) (by omega), gsi_n (by omega)]
    have xq : X'.2.2 = X.2.2 := by rw [g3.1]
    have q0 : X'.2.2 0 = r := by rw [xq, x3 0 (by decide), er]; rfl
    have q1 : X'.2.2 1 = s := by rw [xq, x3 1 (by decide), es]; rfl
    have hx : fX10_rules S (nI j) = (if (X'.1 31 0) = 0 then glet (gsq X' 0 (X'.2.2 1)) fun S8 => glet (gsq S8 1 (X'.2.2 0)) fun S9 => (if gk (S9.2.2 0) = 7 then (some ((S9.1 (S9.2.2 0) 0), S9)) else none) else (some ((-1 : Int32), X'))) := by
      unfold fX10_rules
      rw [if_neg c1, t4, if_pos (nI_le c2 (by omega)), glet_s, show (gsi S 0 1 0).2.2 1 = s from es.symm, x1, g1, gbd_s]
    have second : ∀ S1 : GS, S1.1 = X'.1 → ∃ M', fX11_rules S1 (nI j) = fX11_rules_118 M' ∧ M'.2 = S1.2 ∧ M'.1 54 2 = 0 ∧ (∀ a b, wMl a b = false → (a ≠ 54 ∨ (b ≠ 0 ∧ b ≠ 2 ∧ b ≠ 13)) → M'.1 a b = X'.1 a b) ∧ ((∃ k p, FL k p X' M') ∨ ∃ T', LB s T' X' M') := by
      intro S1 e1
      obtain ⟨X2, M', k1, k2, k3, k4, k5, k6, k7⟩ := rules_run (S1 := S1) hs x2 (by rw [e1, x54 _ _ (by decide)]; exact t5) t6 c2 (fun i hi => ⟨(hu i hi).1, by rw [e1, x54 _ _ (by decide)]; exact (hu i hi).2.2⟩)
      have ex : X2 = X' := (Prod.mk.inj (Option.some.inj (k1.symm.trans g1))).2
      subst ex
      exact ⟨M', k2, k4, k5, fun a b p1 p2 => by rw [k6 a b p1 p2, e1], k7⟩
    have lt53 : ∀ a b, a ≤ 53 → wMl a b = false := fun a b k => by simp [wMl]; omega
    have irx : ∀ k j, irl k j = true → X'.1 k j = S.1 k j ∧ wMl k j = false ∧ (k ≠ 54 ∨ (j ≠ 0 ∧ j ≠ 2 ∧ j ≠ 13 ∧ j ≠ 7 ∧ j ≠ 9 ∧ j ≠ 20 ∧ j ≠ 21)) ∧ k ≠ 56 ∧ k ≠ 57 ∧ k ≠ 58 ∧ k ≠ 59 := by
      intro k j hi
      have hi' : (2 ≤ k ∧ k ≤ 20) ∨ (63 ≤ k ∧ k ≤ 76) ∨ (k = 54 ∧ (j = 29 ∨ j = 30 ∨ j = 33 ∨ j = 35 ∨ j = 41)) ∨ (k = 0 ∧ j = 2) := by simpa [irl] using hi
      refine ⟨?_, by simp [wMl]; omega, by omega, by omega, by omega, by omega, by omega⟩
      rw [xf k j (by simp [wXl, wT]; omega) (by omega) (by omega), gsi_n (by omega)]
    by_cases f0 : X'.1 31 0 = 0
    · obtain ⟨S1, e1⟩ : ∃ S1, S1 = gsq (gsq X' 0 (X'.2.2 1)) 1 (X'.2.2 0) := ⟨_, rfl⟩
      have s1c : S1.1 = X'.1 := by rw [e1]; rfl
      have s10 : S1.2.2 0 = s := by rw [e1, q1]; simp [gsq]
      have s11 : S1.2.2 1 = r := by rw [e1, q0]; simp [gsq]
      obtain ⟨M', k2, k4, k5, k6, k7⟩ := second S1 s1c
      rcases k7 with ⟨k, p, F⟩ | ⟨T, lb⟩
      · exfalso
        rw [F.1] at f0
        exact nI_ne0 (by have := F.2.2.2.2.1; omega) (by have := F.2.2.2.2.2; omega) f0
      obtain ⟨l1, l2, l3, l4, l5, ⟨c, lc1, lc2, lc3⟩, l6, ⟨d, ld1, ld2, ld3, ld4⟩, l7, l8, l9, l10⟩ := lb
      obtain ⟨M2, p1, p2, p3, p4, p5, p6, p7, p8, p9⟩ := m_118 (M := M') l4 (l10 0 (by decide)).2.1 (l10 1 (by decide)).2.1
      have gx : ∀ a b, a ≤ 53 → M2.1 a b = X'.1 a b := fun a b k => by
        rw [p9 a b (by omega) (by omega) (by omega) (by omega) (by omega), k6 a b (lt53 a b k) (by omega)]
      refine ⟨X'.1 s 0, S1, M2, ?_, ?_, ?_⟩
      · show fX10_rules S (nI j) = _
        rw [hx, if_pos f0, glet_s, glet_s, ← e1, s10, if_pos (by rcases hs with rfl | rfl <;> rfl), s1c]
      · show fX11_rules S1 (nI j) = _
        rw [k2, p1, l6]
      · show IVm M2.1 (M2.2.2 0) (M2.2.2 1)
        rw [p2, k4, s10, s11]
        refine IV_rul h (fun k j hi => ?_) ?_ ?_ ⟨by omega, ?_, ?_, ?_, ?_, ?_, ?_⟩ ⟨?_, ?_⟩
        · obtain ⟨i1, i2, i3, i4, i5, i6, i7⟩ := irx k j hi
          rw [p9 k j i4 i5 i6 i7 (by omega), k6 k j i2 (by omega), i1]
        · rw [gx _ _ (by decide), xf 0 1 (by simp [wXl, wT]; omega) (by decide) (by decide), gsi_s]
        · rw [p9 _ _ (by decide) (by decide) (by decide) (by decide) (by decide)]; exact k5
        · rw [gx _ _ (by omega), lc1, p6, lc2]
        · rw [gx _ _ (by omega), ld1, p5, ld2]
        · rw [gx _ _ (by omega), ld1]; exact gib_nI (by omega) (by decide)
        · rw [gx _ _ (by omega), ld1]; exact nI_ne0 (by omega) (by omega)
        · obtain ⟨v1, v2, m, v3, v4, v5, v6, v7⟩ := l10 0 (by decide)
          refine ⟨by rw [(p7 0 (by decide)).2, gx _ _ (by omega)]; exact v2.trans v1.symm, ?_⟩
          rw [gx _ _ (by omega), show s + 1 = s + 1 + 2 * 0 from rfl, v1]
          cases hT : T.testBit 0
          · exact Or.inl rfl
          · obtain ⟨w1, w2⟩ := v7 hT
            refine Or.inr ⟨rfl, m, v3, by rw [gx _ _ (by omega)]; exact v4, by rw [(p7 0 (by decide)).1]; exact v5, fun i hi => ?_, ?_⟩
            · rw [gx _ _ (by omega), p8 56 _ (by decide) (by omega), p8 57 _ (by decide) (by omega), show 128 + (64 * 0 + i) = 64 * (2 + 0) + i by omega]; exact w1 i hi
            · rw [show M2.1 (s + 1 + 2 * 0 + 1) = X'.1 (s + 1 + 2 * 0 + 1) from funext fun i => gx _ _ (by omega)]; exact w2
        · obtain ⟨v1, v2, m, v3, v4, v5, v6, v7⟩ := l10 1 (by decide)
          refine ⟨by rw [(p7 1 (by decide)).2, gx _ _ (by omega)]; exact v2.trans v1.symm, ?_⟩
          rw [gx _ _ (by omega), show s + 3 = s + 1 + 2 * 1 from rfl, v1]
          cases hT : T.testBit 1
          · exact Or.inl rfl
          · obtain ⟨w1, w2⟩ := v7 hT
            refine Or.inr ⟨rfl, m, v3, by rw [gx _ _ (by omega)]; exact v4, by rw [(p7 1 (by decide)).1]; exact v5, fun i hi => ?_, ?_⟩
            · rw [gx _ _ (by omega), p8 56 _ (by decide) (by omega), p8 57 _ (by decide) (by omega), show 128 + (64 * 1 + i) = 64 * (2 + 1) + i by omega]; exact w1 i hi
            · rw [show M2.1 (s + 1 + 2 * 1 + 1) = X'.1 (s + 1 + 2 * 1 + 1) from funext fun i => gx _ _ (by omega)]; exact w2
        · rw [gx _ _ (by decide), p3]; exact f0
        · rw [gx _ _ (by decide), p4, l3, l5]
    · obtain ⟨M', k2, k4, k5, k6, k7⟩ := second X' rfl
      rcases k7 with ⟨k, p, F1, F2, F3, F4, F5, F6⟩ | ⟨T, lb⟩
      · have n18 : ¬ M'.1 54 18 = 0 := by rw [F3]; exact nI_ne0 (by omega) (by omega)
        have mx : ∀ a b, wMl a b = false → (a ≠ 54 ∨ (b ≠ 0 ∧ b ≠ 2 ∧ b ≠ 13 ∧ b ≠ 20 ∧ b ≠ 21)) → (gsi (gsi M' 54 20 (M'.1 54 18)) 54 21 (M'.1 54 19)).1 a b = X'.1 a b := fun a b i1 i2 => by
          rw [gsi_n (by omega), gsi_n (by omega), k6 a b i1 (by omega)]
        refine ⟨-1, X', gsi (gsi M' 54 20 (M'.1 54 18)) 54 21 (M'.1 54 19), ?_, ?_, ?_⟩
        · show fX10_rules S (nI j) = _
          rw [hx, if_neg f0]
        · show fX11_rules X' (nI j) = _
          rw [k2, m_118f n18]
        · show IVm _ (M'.2.2 0) (M'.2.2 1)
          rw [k4, q0, q1]
          have rx : ∀ a b, r ≤ a → a ≤ r + 4 → X'.1 a b = S.1 a b := fun a b i1 i2 => by
            rw [xf a b (by simp [wXl, wT]; omega) (by omega) (by omega), gsi_n (by omega)]
          have rm : ∀ a b, r ≤ a → a ≤ r + 4 → (gsi (gsi M' 54 20 (M'.1 54 18)) 54 21 (M'.1 54 19)).1 a b = S.1 a b := fun a b i1 i2 => by
            rw [mx a b (lt53 a b (by omega)) (by omega), rx a b i1 i2]
          have r5 : ∀ a b, (a = 56 ∨ a = 57) → b < 128 → (gsi (gsi M' 54 20 (M'.1 54 18)) 54 21 (M'.1 54 19)).1 a b = S.1 a b := fun a b i1 i2 => by
            rw [mx a b (by simp [wMl]; omega) (by omega), x54 a b (by omega)]
          have r8 : ∀ a b, (a = 58 ∨ a = 59) → b < 2 → (gsi (gsi M' 54 20 (M'.1 54 18)) 54 21 (M'.1 54 19)).1 a b = S.1 a b := fun a b i1 i2 => by
            rw [mx a b (by simp [wMl]; omega) (by omega), x54 a b (by omega)]
          have r4 : ∀ b, (b = 7 ∨ b = 9) → (gsi (gsi M' 54 20 (M'.1 54 18)) 54 21 (M'.1 54 19)).1 54 b = S.1 54 b := fun b i1 => by
            rw [mx 54 b (by simp [wMl]; omega) (by omega), x54 54 b (by omega)]
          obtain ⟨-, hr1, hr2, hr3, hr4, hr5, hr6⟩ := hr
          refine IV_rul h (fun k j hi => ?_) ?_ ?_ ⟨by omega, ?_, ?_, ?_, ?_, ?_, ?_⟩ ⟨?_, ?_⟩
          · obtain ⟨i1, i2, i3, i4, i5, i6, i7⟩ := irx k j hi
            rw [mx k j i2 (by omega), i1]
          · rw [mx _ _ (lt53 _ _ (by decide)) (by decide), xf 0 1 (by simp [wXl, wT]; omega) (by decide) (by decide), gsi_s]
          · rw [gsi_n (by omega), gsi_n (by omega)]; exact k5
          · rw [rm _ _ (by omega) (by omega), r4 9 (by decide)]; exact hr1
          · rw [rm _ _ (by omega) (by omega), r4 7 (by decide)]; exact hr2
          · rw [rm _ _ (by omega) (by omega)]; exact hr3
          · rw [rm _ _ (by omega) (by omega)]; exact hr4
          · exact hr5.fr (r8 _ _ (by decide) (by decide)) (rm _ _ (by omega) (by omega)) (rm _ _ (by omega) (by omega)) (r8 _ _ (by decide) (by decide)) (fun i => rm _ _ (by omega) (by omega)) (fun i hi => ⟨r5 _ _ (by decide) (by omega), r5 _ _ (by decide) (by omega)⟩)
          · exact hr6.fr (r8 _ _ (by decide) (by decide)) (rm _ _ (by omega) (by omega)) (rm _ _ (by omega) (by omega)) (r8 _ _ (by decide) (by decide)) (fun i => rm _ _ (by omega) (by omega)) (fun i hi => ⟨r5 _ _ (by decide) (by omega), r5 _ _ (by decide) (by omega)⟩)
          · rw [mx _ _ (lt53 _ _ (by decide)) (by decide), F1, gsi_n (by omega), gsi_s, F3]
          · rw [mx _ _ (lt53 _ _ (by decide)) (by decide), F2, gsi_s, F4]
      · exact absurd lb.2.1 f0
  · refine no ?_ ?_
    · unfold fX10_rules
      rw [if_neg c1, t4, if_neg (nI_ge (by omega) hj)]
    · unfold fX11_rules
      rw [glet_s, if_neg c1, gsi_n (by omega), t5, if_neg (nI_ge (by omega) hj)]
/-- look in the reference: how it throws, what it answers -/
theorem ref_look {S : GS} (h : IV S) (a b : Int32) : ∃ nk, S.1 7 0 = nI nk ∧ nk ≤ 32 ∧ (gib a nk = false → fX11_look S a b = some (0, gsi S 54 0 1)) ∧ (gib a nk = true → (b < 0 ∨ 4 < b) → fX11_look S a b = some (0, gsi S 54 0 2)) ∧ (gib a nk = true → ∀ j, j < 5 → b = nI j → fX11_look S a b = some (S.1 (8 + j) a.toNatClampNeg, gsi S 54 0 0)) := by
  obtain ⟨td, nt, nc, np, nk, nn, ht, hc, hp, hk, hn, hr, hf⟩ := id h
  obtain ⟨k1, k2, k3, k4, -⟩ := hk
  have hi : fX11_isCase S a = some (gz (gib a nk)) := m_isCase k2 (by omega)
  refine ⟨nk, k1, k3, fun h0 => ?_, fun h1 hb => ?_, fun h1 j hj hb => ?_⟩
  · unfold fX11_look fX11_look_27
    rw [hi, h0, gbv_s, if_pos (by rfl), glet_s, gsi_s, if_neg (by decide)]
  · unfold fX11_look fX11_look_22 fX11_look_27
    rw [hi, h1, gbv_s, if_neg (by decide)]
    rcases hb with hb | hb
    · rw [if_pos hb, glet_s, gsi_s, if_neg (by decide)]
    · have n0 : ¬ b < 0 := fun q => by
        rw [fa_lt] at q hb
        have e4 : (4 : Int32).toInt = 4 := by decide
        have e0 : (0 : Int32).toInt = 0 := by decide
        omega
      have n4 : ¬ b ≤ 4 := fun q => by
        rw [fa_le] at q
        rw [fa_lt] at hb
        omega
      rw [if_neg n0, if_neg n4, glet_s, gsi_s, if_neg (by decide)]
  · obtain ⟨c1, c2⟩ := gib_c h1 (by omega)
    have g32 : gib a 32 = true := gib_ge h1 k3
    obtain ⟨q1, q2, q3, q4, q5, -⟩ := k4 _ c1
    unfold fX11_look fX11_look_27
    rw [hi, h1, gbv_s, if_neg (by decide)]
    rcases (show j = 0 ∨ j = 1 ∨ j = 2 ∨ j = 3 ∨ j = 4 by omega) with rfl | rfl | rfl | rfl | rfl
    · rw [hb, if_neg (by decide), if_pos (by decide), glet_s, gsi_s, if_pos rfl, if_pos (by decide), if_pos g32, gsi_n (by omega), q1]
    · rw [hb, if_neg (by decide), if_pos (by decide), glet_s, gsi_s, if_pos rfl, if_neg (by decide), if_pos (by decide), if_pos g32, gsi_n (by omega), q2]
    · rw [hb, if_neg (by decide), if_pos (by decide), glet_s, gsi_s, if_pos rfl, if_neg (by decide), if_neg (by decide), if_pos (by decide), if_pos g32, gsi_n (by omega), q3]
    · rw [hb, if_neg (by decide), if_pos (by decide), glet_s, gsi_s, if_pos rfl, if_neg (by decide), if_neg (by decide), if_neg (by decide), if_pos (by decide), if_pos g32, gsi_n (by omega), q4]
    · rw [hb, if_neg (by decide), if_pos (by decide), glet_s, gsi_s, if_pos rfl, if_neg (by decide), if_neg (by decide), if_neg (by decide), if_neg (by decide), if_pos g32, gsi_n (by omega), q5]

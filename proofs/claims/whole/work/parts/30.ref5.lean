/-! the reference: what is known on a day -/
theorem gz_not0 (b : Bool) : gz b = 1 ↔ b = true := by cases b <;> simp [gz]
section
variable {X : CT} {S S' S1 S2 : GS} {k wo : Int32}
theorem MF.fr {C : List Nat} (h : MF X S) (q : Fr C S S') (hC : ∀ c, c ∈ C → 77 ≤ c) : MF X S' := ⟨fun c a b => by rw [q.1 c (fun z => by have := hC c z; omega)]; exact h.1 c a b, fun j a => by rw [q.1 54 (fun z => by have := hC 54 z; omega)]; exact h.2 j a⟩
theorem m_knA (hX : X.ok) (hF : MF X S) : ∃ S', fX11_knows S k wo = fX11_knows_30 FU S' k wo (nI X.nn - 1) ∧ Fr [77] S S' ∧ ∀ j, j < X.nn → S'.1 77 j = 0 := by
  have hnn := hX.D.2.2.2.2.2.2.1
  unfold fX11_knows
  rw [glet_s]
  obtain ⟨S', a1, a2⟩ := up_loop (fun n S i => fX11_knows_2 n S k wo i) X.nn (fun i S2 => Fr [77] S S2 ∧ ∀ j, j < i → S2.1 77 j = 0) (fun S => fX11_knows_30 FU S k wo (nI X.nn - 1))
    (fun n S2 h => by
      have e := (hF.fr h.1 (by simp)).nn hX
      rw [fX11_knows_2, e, if_pos (nI_le (Nat.le_refl _) (by omega)), glet_s])
    (fun n i S2 hi h => by
      have e := (hF.fr h.1 (by simp)).nn hX
      rw [fX11_knows_2, e, if_neg (nI_ge hi (by omega)), if_pos (gib_nI (show i < 120 by omega) (by decide)), nI_clamp (show i < 2 ^ 31 by omega), nar_0]
      simp only [glet_s, nI_1]
      refine ⟨_, rfl, h.1.put (by simp) _ _, fun j hj => ?_⟩
      rw [gsi_r]
      by_cases z : j = i
      · rw [if_pos ⟨rfl, z⟩]
      · rw [if_neg (by rintro ⟨-, q⟩; exact z q)]; exact h.2 j (by omega))
    S ⟨Fr.rf, fun j hj => absurd hj (Nat.not_lt_zero _)⟩ FU (FU_gt (by omega))
  exact ⟨S', a1, a2⟩
theorem m_knB (hX : X.ok) (hF : MF X S) (h0 : ∀ j, j < X.nn → S.1 77 j = 0) : ∃ S', fX11_knows_30 FU S k wo (nI X.nn - 1) = fX11_knows_84 FU S' k wo 0 ∧ Fr [77] S S' ∧ ∀ j, j < X.nn → S'.1 77 j = gz (gStr X.f k X.nn X.nn j) := by
  have hnn := hX.D.2.2.2.2.2.2.1
  obtain ⟨S', a1, a2, a3, a4⟩ := down_loop (fun n S i => fX11_knows_30 n S k wo i) (fun i S2 => i ≤ X.nn ∧ Fr [77] S S2 ∧ ∀ j, j < X.nn → S2.1 77 j = gz (gStr X.f k X.nn (X.nn - i) j)) (fun S => fX11_knows_84 FU S k wo 0)
    (fun n S2 h => by rw [fX11_knows_30, if_pos (by decide), glet_s])
    (fun n i S2 h => by
      obtain ⟨h1, h2, h3⟩ := h
      have hi : i < X.nn := by omega
      have hF2 := hF.fr h2 (by simp)
      have w := hX.n1 hi
      have ed : X.nn - i = (X.nn - (i + 1)) + 1 := by omega
      have ei : X.nn - ((X.nn - (i + 1)) + 1) = i := by omega
      have es : ∀ j, gStr X.f k X.nn (X.nn - i) j = (gStr X.f k X.nn (X.nn - (i + 1)) j || (decide (X.f 16 i ≤ k) && !(gStr X.f k X.nn (X.nn - (i + 1)) i) && decide (X.f 15 i = 8) && decide (j = (X.f 18 i).toNatClampNeg))) := fun j => by
        rw [ed]
        show (gStr X.f k X.nn (X.nn - (i + 1)) j || (decide (X.f 16 (X.nn - ((X.nn - (i + 1)) + 1)) ≤ k) && !(gStr X.f k X.nn (X.nn - (i + 1)) (X.nn - ((X.nn - (i + 1)) + 1))) && decide (X.f 15 (X.nn - ((X.nn - (i + 1)) + 1)) = 8) && decide (j = (X.f 18 (X.nn - ((X.nn - (i + 1)) + 1))).toNatClampNeg))) = _
        rw [ei]
      have skip : (decide (X.f 16 i ≤ k) && !(gStr X.f k X.nn (X.nn - (i + 1)) i) && decide (X.f 15 i = 8)) = false → ∃ S', fX11_knows_30 n S2 k wo (nI i - 1) = fX11_knows_30 n S' k wo (nI i - 1) ∧ i ≤ X.nn ∧ Fr [77] S S' ∧ ∀ j, j < X.nn → S'.1 77 j = gz (gStr X.f k X.nn (X.nn - i) j) :=
        fun hz => ⟨S2, rfl, by omega, h2, fun j hj => by rw [h3 j hj, es j, hz]; simp⟩
      rw [fX11_knows_30, if_neg (nI_pos (show i < 2 ^ 31 by omega)), if_pos (gib_nI (show i < 120 by omega) (by decide)), nI_clamp (show i < 2 ^ 31 by omega), hF2.1 72 (by decide) (by decide), w.2.1, h3 i hi, hF2.kd hX hi]
      simp only [gz_0, glet_s, m1_eq]
      by_cases c1 : k < X.f 16 i
      · rw [if_pos c1]
        exact skip (by rw [decide_eq_false (fa_of_lt c1).2.1]; rfl)
      · rw [if_neg c1]
        have c1' := fa_of_nlt c1
        cases c2 : gStr X.f k X.nn (X.nn - (i + 1)) i
        · rw [if_pos rfl]
          by_cases c3 : X.f 15 i = 8
          · have v := w.2.2.2.2.2.2.2.2 c3
            obtain ⟨g1, g2⟩ := gib_all v.2 (by omega)
            rw [if_pos c3, hF2.1 73 (by decide) (by decide), v.1, if_pos (gib_ge v.2 (show i ≤ 120 by omega)), nar_1]
            refine ⟨_, rfl, by omega, h2.put (by simp) _ _, fun j hj => ?_⟩
            rw [gsi_r, es j]
            by_cases z : j = (X.f 18 i).toNatClampNeg
            · rw [if_pos ⟨rfl, z⟩, c2, decide_eq_true c1', decide_eq_true c3, decide_eq_true z]; simp [gz]
            · rw [if_neg (by rintro ⟨-, q⟩; exact z q), h3 j hj, decide_eq_false z]; simp
          · rw [if_neg c3]; exact skip (by rw [decide_eq_false c3]; simp)
        · rw [if_neg (by decide)]; exact skip (by rw [c2]; simp))
    X.nn S ⟨Nat.le_refl _, Fr.rf, fun j hj => by rw [h0 j hj, Nat.sub_self]; rfl⟩ FU (FU_gt (by omega))
  exact ⟨S', a1, a3, fun j hj => by rw [a4 j hj, Nat.sub_zero]⟩
theorem m_knC (hX : X.ok) (hF : MF X S) (h7 : ∀ j, j < X.nn → S.1 77 j = gz (gStr X.f k X.nn X.nn j)) (hwo : wo = -1 ∨ gib wo X.nk = true) : ∃ S', fX11_knows_84 FU S k wo 0 = gbd (fX11_joins S') (fun _ S4 => glet (gsi S4 54 52 (0 : Int32)) fun S5 => glet (0 : Int32) fun v6 => fX11_knows_201 FU S5 k wo v6) ∧ Fr [78] S S' ∧ ∀ j, j < X.nn → S'.1 78 j = gz (gCn X.f k wo X.nn j) := by
  have hnn := hX.D.2.2.2.2.2.2.1
  obtain ⟨S', a1, a2⟩ := up_loop (fun n S i => fX11_knows_84 n S k wo i) X.nn (fun i S2 => Fr [78] S S2 ∧ ∀ j, j < i → S2.1 78 j = gz (gCn X.f k wo X.nn j)) (fun S => gbd (fX11_joins S) (fun _ S4 => glet (gsi S4 54 52 (0 : Int32)) fun S5 => glet (0 : Int32) fun v6 => fX11_knows_201 FU S5 k wo v6))
    (fun n S2 h => by
      have e := (hF.fr h.1 (by simp)).nn hX
      rw [fX11_knows_84, e, if_pos (nI_le (Nat.le_refl _) (by omega))])
    (fun n i S2 hi h => by
      obtain ⟨h2, h3⟩ := h
      have hF2 := hF.fr h2 (by simp)
      have w := hX.n1 hi
      have g120 : gib (nI i) 120 = true := gib_nI (by omega) (by decide)
      have ei : (nI i).toNatClampNeg = i := nI_clamp (by omega)
      have s147 : ∀ t : Bool, ∃ S', fX11_knows_147 (fX11_knows_84 n) S2 (gz t) k wo (nI i) = fX11_knows_84 n S' k wo (nI (i + 1)) ∧ Fr [78] S S' ∧ (∀ j, j < i → S'.1 78 j = gz (gCn X.f k wo X.nn j)) ∧ S'.1 78 i = gz (decide (X.f 16 i ≤ k) && !(gStr X.f k X.nn X.nn i) && !t) := by
        intro t
        have put : ∀ x : Int32, Fr [78] S (gsi S2 78 i x) ∧ (∀ j, j < i → (gsi S2 78 i x).1 78 j = gz (gCn X.f k wo X.nn j)) ∧ (gsi S2 78 i x).1 78 i = x := fun x => ⟨h2.put (by simp) _ _, fun j hj => by rw [gsi_r, if_neg (by rintro ⟨-, q⟩; omega)]; exact h3 j hj, by rw [gsi_r, if_pos ⟨rfl, rfl⟩]⟩
        unfold fX11_knows_147 fX11_knows_182
        rw [if_pos g120, ei, hF2.1 72 (by decide) (by decide), w.2.1, h2.at 77 (by decide), h7 i hi, nar_0, nar_1]
        simp only [gz_0, glet_s, nI_1, if_pos g120, ei]
        by_cases c1 : k < X.f 16 i
        · rw [if_pos c1]
          exact ⟨_, rfl, (put 0).1, (put 0).2.1, by rw [(put 0).2.2, decide_eq_false (fa_of_lt c1).2.1]; rfl⟩
        · rw [if_neg c1, decide_eq_true (fa_of_nlt c1)]
          cases gStr X.f k X.nn X.nn i
          · rw [if_pos rfl]
            cases t
            · rw [if_pos rfl]
              exact ⟨_, rfl, (put 1).1, (put 1).2.1, by rw [(put 1).2.2]; rfl⟩
            · rw [if_neg (by decide)]
              exact ⟨_, rfl, (put 0).1, (put 0).2.1, by rw [(put 0).2.2]; rfl⟩
          · rw [if_neg (by decide)]
            exact ⟨_, rfl, (put 0).1, (put 0).2.1, by rw [(put 0).2.2]; rfl⟩
      have e147 : fX11_knows_84 (n + 1) S2 k wo (nI i) = fX11_knows_147 (fX11_knows_84 n) S2 (gz (gOf X.f wo i)) k wo (nI i) := by
        rw [fX11_knows_84, hF2.nn hX, if_neg (nI_ge hi (by omega)), if_pos g120, ei, hF2.kd hX hi]
        unfold fX11_knows_112 fX11_knows_142 fX11_knows_146
        rw [if_pos g120, ei, hF2.kd hX hi, hF2.1 73 (by decide) (by decide), hF2.1 74 (by decide) (by decide)]
        by_cases c4 : 4 < X.f 15 i
        · have n4 : ¬ X.f 15 i ≤ 4 := (fa_of_lt c4).2.1
          have c2 : ¬ X.f 15 i < 2 := fun z => (fa_of_lt (fa_trans c4 (fa_of_lt z).1)).2.2.1 (by decide)
          rw [if_pos c4, if_neg c2, if_pos c4]
          have : gOf X.f wo i = false := by unfold gOf; simp [n4]
          rw [this]; rfl
        · have y4 : X.f 15 i ≤ 4 := fa_of_nlt c4
          rw [if_neg c4]
          by_cases c2 : X.f 15 i < 2
          · have y1 : X.f 15 i ≤ 1 := by
              obtain ⟨v, hv, ev⟩ := gib_ex w.2.2.1 (by decide)
              rw [ev] at c2 ⊢
              have := (nI_ltI (show v < 2 ^ 31 by omega) (show 2 < 2 ^ 31 by omega)).mp c2
              exact (nI_leI (show v < 2 ^ 31 by omega) (show 1 < 2 ^ 31 by omega)).mpr (by omega)
            have n1 : ¬ (1 : Int32) < X.f 15 i := fun z => (fa_of_lt z).2.1 y1
            have v := w.2.2.2.2.1 y1
            rw [v.1, if_pos c2]
            by_cases c7 : X.f 17 i = wo
            · rw [if_pos c7]
              have : gOf X.f wo i = true := by unfold gOf; simp [y4, c7]
              rw [this]; rfl
            · rw [if_neg c7]
              have : gOf X.f wo i = false := by unfold gOf; simp [c7, n1]
              rw [this]; rfl
          · have y1 : (1 : Int32) < X.f 15 i := fa_trans (show (1 : Int32) < 2 by decide) (fa_of_nlt c2)
            have v := w.2.2.2.2.2.1 y1 y4
            rw [v.1, v.2.1, if_neg c2, if_neg c4]
            by_cases c7 : X.f 17 i = wo
            · rw [if_pos c7]
              have : gOf X.f wo i = true := by unfold gOf; simp [y4, c7]
              rw [this]; rfl
            · rw [if_neg c7]
              by_cases c8 : X.f 18 i = wo
              · rw [if_pos c8]
                have : gOf X.f wo i = true := by unfold gOf; simp [y4, y1, c8]
                rw [this]; rfl
              · rw [if_neg c8]
                have : gOf X.f wo i = false := by unfold gOf; simp [c7, c8]
                rw [this]; rfl
      obtain ⟨S3, b1, b2, b3, b4⟩ := s147 (gOf X.f wo i)
      refine ⟨S3, by rw [e147]; exact b1, b2, fun j hj => ?_⟩
      by_cases z : j = i
      · subst z; rw [b4]; rfl
      · exact b3 j (by omega))
    S ⟨Fr.rf, fun j hj => absurd hj (Nat.not_lt_zero _)⟩ FU (FU_gt (by omega))
  exact ⟨S', a1, a2⟩
theorem m_joins (hX : X.ok) (hF : MF X S) (hcn : ∀ j, j < X.nn → S.1 78 j = gz (X.cn j)) (hld : X.ld = gLd X.f X.cn X.nn) : ∃ S', fX11_joins S = some ((), S') ∧ Fr [79, 80] S S' ∧ MT X S' := by
  have hnn := hX.D.2.2.2.2.2.2.1
  have hnp := hX.D.2.2.1.2.2.1
  have j7 : ∀ i, i < X.nn → X.f 15 i = 7 → X.f 73 i = X.f 19 i ∧ X.f 74 i = X.f 18 i ∧ gib (X.f 19 i) X.np = true ∧ gib (X.f 18 i) X.np = true := fun i hi h7 => (hX.n1 hi).2.2.2.2.2.2.2.1 h7
  unfold fX11_joins
  rw [glet_s]
  -- each point alone
  obtain ⟨S1, a1, a2, a3⟩ := up_loop (fun n S i => fX11_joins_2 n S i) X.np (fun i S2 => Fr [79] S S2 ∧ ∀ j, j < i → S2.1 79 j = nI j) (fun S => fX11_joins_25 FU S 0)
    (fun n S2 h => by
      have e := (hF.fr h.1 (by simp)).np hX
      rw [fX11_joins_2, e, if_pos (nI_le (Nat.le_refl _) (by omega)), glet_s])
    (fun n i S2 hi h => by
      have e := (hF.fr h.1 (by simp)).np hX
      rw [fX11_joins_2, e, if_neg (nI_ge hi (by omega)), if_pos (gib_nI (show i < 12 by omega) (by decide)), nI_clamp (show i < 2 ^ 31 by omega)]
      simp only [glet_s, nI_1]
      refine ⟨_, rfl, h.1.put (by simp) _ _, fun j hj => ?_⟩
      rw [gsi_r]
      by_cases z : j = i
      · rw [if_pos ⟨rfl, z⟩, z]
      · rw [if_neg (by rintro ⟨-, q⟩; exact z q)]; exact h.2 j (by omega))
    S ⟨Fr.rf, fun j hj => absurd hj (Nat.not_lt_zero _)⟩ FU (FU_gt (by omega))
  -- the joinings
  obtain ⟨S2, b1, b2, b3⟩ := up_loop (fun n S i => fX11_joins_25 n S i) X.nn (fun i S2 => Fr [79] S S2 ∧ ∀ j, j < X.np → S2.1 79 j = nI (gLd X.f X.cn i j)) (fun S => fX11_joins_153 FU S 0)
    (fun n S2 h => by
      have e := (hF.fr h.1 (by simp)).nn hX
      rw [fX11_joins_25, e, if_pos (nI_le (Nat.le_refl _) (by omega)), glet_s])
    (fun n i S2 hi h => by
      obtain ⟨h2, h3⟩ := h
      have hF2 := hF.fr h2 (by simp)
      have lt := gLd_lt (f := X.f) (cn := X.cn) (np := X.np) (m := i) (fun i2 hi2 h7 => ⟨(gib_all (j7 i2 (by omega) h7).2.2.1 (by omega)).1, (gib_all (j7 i2 (by omega) h7).2.2.2 (by omega)).1⟩)
      have skip : ¬ (X.cn i = true ∧ X.f 15 i = 7) → ∃ S', fX11_joins_25 n S2 (nI (i + 1)) = fX11_joins_25 n S' (nI (i + 1)) ∧ Fr [79] S S' ∧ ∀ j, j < X.np → S'.1 79 j = nI (gLd X.f X.cn (i + 1) j) :=
        fun hz => ⟨S2, rfl, h2, fun j hj => by rw [h3 j hj]; show _ = nI (if _ then _ else _); rw [if_neg hz]⟩
      rw [fX11_joins_25, hF2.nn hX, if_neg (nI_ge hi (by omega)), if_pos (gib_nI (show i < 120 by omega) (by decide)), nI_clamp (show i < 2 ^ 31 by omega), h2.at 78 (by decide), hcn i hi, hF2.kd hX hi]
      simp only [gz_0, glet_s, nI_1]
      cases hc : X.cn i
      · rw [if_pos rfl]; exact skip (by rw [hc]; simp)
      · rw [if_neg (by decide)]
        by_cases c7 : X.f 15 i = 7
        · obtain ⟨v1, v2, v3, v4⟩ := j7 i hi c7
          rw [if_pos c7, hF2.1 73 (by decide) (by decide), hF2.1 74 (by decide) (by decide), v1, v2, if_pos (gib_ge v3 hnp), if_pos (gib_ge v4 hnp)]
          have l3 := (gib_all v3 (by omega)).1
          have l4 := (gib_all v4 (by omega)).1
          have q3 := lt _ l3
          have q4 := lt _ l4
          rw [h3 _ l3, h3 _ l4, nI_min (by omega) (by omega), nI_max (by omega) (by omega)]
          generalize hA : gLd X.f X.cn i (X.f 19 i).toNatClampNeg = A at *
          generalize hBb : gLd X.f X.cn i (X.f 18 i).toNatClampNeg = Bb at *
          obtain ⟨S3, c1, c2, c3⟩ := up_loop (fun n1 S q => fX11_joins_111 (fX11_joins_25 n) n1 S (nI i) (nI (min A Bb)) (nI (max A Bb)) q) X.np (fun q S3 => Fr [79] S S3 ∧ ∀ j, j < X.np → S3.1 79 j = nI (if j < q ∧ gLd X.f X.cn i j = max A Bb then min A Bb else gLd X.f X.cn i j)) (fun S => fX11_joins_25 n S (nI (i + 1)))
            (fun n1 S3 h => by
              have e := (hF.fr h.1 (by simp)).np hX
              rw [fX11_joins_111, e, if_pos (nI_le (Nat.le_refl _) (by omega)), glet_s, nI_1])
            (fun n1 q S3 hq h => by
              have e := (hF.fr h.1 (by simp)).np hX
              have lq := lt q hq
              rw [fX11_joins_111, e, if_neg (nI_ge hq (by omega)), if_pos (gib_nI (show q < 12 by omega) (by decide)), nI_clamp (show q < 2 ^ 31 by omega), h.2 q hq, if_neg (show ¬ (q < q ∧ gLd X.f X.cn i q = max A Bb) by omega)]
              simp only [nI_eq (show gLd X.f X.cn i q < 2 ^ 31 by omega) (show max A Bb < 2 ^ 31 by omega), glet_s, nI_1]
              by_cases cq : gLd X.f X.cn i q = max A Bb
              · rw [if_pos cq]
                refine ⟨_, rfl, h.1.put (by simp) _ _, fun j hj => ?_⟩
                rw [gsi_r]
                by_cases z : j = q
                · subst z; rw [if_pos ⟨rfl, rfl⟩, if_pos ⟨by omega, cq⟩]
                · rw [if_neg (by rintro ⟨-, w⟩; exact z w), h.2 j hj]
                  have : (j < q + 1) = (j < q) := by apply propext; omega
                  simp only [this]
              · rw [if_neg cq]
                refine ⟨S3, rfl, h.1, fun j hj => ?_⟩
                rw [h.2 j hj]
                by_cases z : j = q
                · subst z; rw [if_neg (fun w => cq w.2), if_neg (fun w => cq w.2)]
                · have : (j < q + 1) = (j < q) := by apply propext; omega
                  simp only [this])
            S2 ⟨h2, fun j hj => by rw [h3 j hj, if_neg (by omega)]⟩ FU (FU_gt (by omega))
          refine ⟨S3, c1, c2, fun j hj => ?_⟩
          rw [c3 j hj]
          show _ = nI (if X.cn i = true ∧ X.f 15 i = 7 then (if gLd X.f X.cn i j = max (gLd X.f X.cn i (X.f 19 i).toNatClampNeg) (gLd X.f X.cn i (X.f 18 i).toNatClampNeg) then min (gLd X.f X.cn i (X.f 19 i).toNatClampNeg) (gLd X.f X.cn i (X.f 18 i).toNatClampNeg) else gLd X.f X.cn i j) else gLd X.f X.cn i j)
          rw [hA, hBb]
          simp only [hj, true_and, hc, c7, and_self, if_true]
        · rw [if_neg c7]; exact skip (fun z => c7 z.2))
    S1 ⟨a2, fun j hj => by rw [a3 j hj]; rfl⟩ FU (FU_gt (by omega))
  have b3' : ∀ j, j < X.np → S2.1 79 j = nI (X.ld j) := fun j hj => by rw [b3 j hj, hld]
  -- no point against another one
  obtain ⟨S3, c1, c2, c3⟩ := up_loop (fun n S i => fX11_joins_153 n S i) X.np (fun i S3 => Fr [79, 80] S S3 ∧ S3.1 79 = S2.1 79 ∧ ∀ j, j < i → S3.1 80 j = 0) (fun S => fX11_joins_176 FU S 0)
    (fun n S3 h => by
      have e := (hF.fr h.1 (by simp)).np hX
      rw [fX11_joins_153, e, if_pos (nI_le (Nat.le_refl _) (by omega)), glet_s])
    (fun n i S3 hi h => by
      have e := (hF.fr h.1 (by simp)).np hX
      rw [fX11_joins_153, e, if_neg (nI_ge hi (by omega)), if_pos (gib_nI (show i < 12 by omega) (by decide)), nI_clamp (show i < 2 ^ 31 by omega)]
      simp only [glet_s, nI_1]
      refine ⟨_, rfl, h.1.put (by simp) _ _, by rw [gsi_ne (by decide)]; exact h.2.1, fun j hj => ?_⟩
      rw [gsi_r]
      by_cases z : j = i
      · rw [if_pos ⟨rfl, z⟩]
      · rw [if_neg (by rintro ⟨-, q⟩; exact z q)]; exact h.2.2 j (by omega))
    S2 ⟨b2.mono (by simp), rfl, fun j hj => absurd hj (Nat.not_lt_zero _)⟩ FU (FU_gt (by omega))
  -- against
  obtain ⟨S4, d1, d2, d3, d4⟩ := up_loop (fun n S i => fX11_joins_176 n S i) X.np (fun a S4 => Fr [79, 80] S S4 ∧ S4.1 79 = S2.1 79 ∧ ∀ p, p < X.np → ∀ q, q < 32 → bt (S4.1 80 p) q = gAny a (fun a => gAny X.np (fun b => bt (X.f 6 a) b && !decide (X.ld a = X.ld b) && decide (X.ld a = p) && decide (X.ld b = q)))) (fun S => some ((), S))
    (fun n S4 h => by
      have e := (hF.fr h.1 (by simp)).np hX
      rw [fX11_joins_176, e, if_pos (nI_le (Nat.le_refl _) (by omega))])
    (fun n a S4 ha h => by
      obtain ⟨h1, h2, h3⟩ := h
      have e := (hF.fr h1 (by simp)).np hX
      rw [fX11_joins_176, e, if_neg (nI_ge ha (by omega)), glet_s]
      obtain ⟨S5, g1, g2, g3, g4⟩ := up_loop (fun n1 S b => fX11_joins_186 (fX11_joins_176 n) n1 S (nI a) b) X.np (fun b S5 => Fr [79, 80] S S5 ∧ S5.1 79 = S2.1 79 ∧ ∀ p, p < X.np → ∀ q, q < 32 → bt (S5.1 80 p) q = (bt (S4.1 80 p) q || gAny b (fun b => bt (X.f 6 a) b && !decide (X.ld a = X.ld b) && decide (X.ld a = p) && decide (X.ld b = q)))) (fun S => fX11_joins_176 n S (nI (a + 1)))
        (fun n1 S5 h => by
          have e := (hF.fr h.1 (by simp)).np hX
          rw [fX11_joins_186, e, if_pos (nI_le (Nat.le_refl _) (by omega)), glet_s, nI_1])
        (fun n1 b S5 hb h => by
          obtain ⟨k1, k2, k3⟩ := h
          have hF5 := hF.fr k1 (by simp)
          have la := hX.ld_lt a ha
          have lb := hX.ld_lt b hb
          have e65 : S5.1 65 a = X.f 6 a := by rw [hF5.1 65 (by decide) (by decide)]; exact hX.D.2.2.1.2.2.2 a
          have skip : (bt (X.f 6 a) b && !decide (X.ld a = X.ld b)) = false → ∃ S', fX11_joins_186 (fX11_joins_176 n) n1 S5 (nI a) (nI (b + 1)) = fX11_joins_186 (fX11_joins_176 n) n1 S' (nI a) (nI (b + 1)) ∧ Fr [79, 80] S S' ∧ S'.1 79 = S2.1 79 ∧ ∀ p, p < X.np → ∀ q, q < 32 → bt (S'.1 80 p) q = (bt (S4.1 80 p) q || gAny (b + 1) (fun b => bt (X.f 6 a) b && !decide (X.ld a = X.ld b) && decide (X.ld a = p) && decide (X.ld b = q))) :=
            fun hz => ⟨S5, rfl, k1, k2, fun p hp q hq => by rw [k3 p hp q hq, gAny_s b, hz]; simp⟩
          rw [fX11_joins_186, hF5.np hX, if_neg (nI_ge hb (by omega)), if_pos (gib_nI (show a < 12 by omega) (by decide)), nI_clamp (show a < 2 ^ 31 by omega), e65, k2, b3' a ha]
          simp only [b_tst _ (show b < 32 by omega), glet_s, nI_1]
          cases ho : bt (X.f 6 a) b
          · rw [if_neg (by decide)]; exact skip (by rw [ho]; rfl)
          · rw [if_pos rfl, if_pos (gib_nI (show b < 12 by omega) (by decide)), nI_clamp (show b < 2 ^ 31 by omega), b3' b hb]
            simp only [nI_eq (show X.ld a < 2 ^ 31 by omega) (show X.ld b < 2 ^ 31 by omega)]
            by_cases cl : X.ld a = X.ld b
            · rw [if_pos cl]; exact skip (by rw [decide_eq_true cl]; simp)
            · rw [if_neg cl, if_pos (gib_nI (show X.ld a < 12 by omega) (by decide)), nI_clamp (show X.ld a < 2 ^ 31 by omega)]
              refine ⟨_, rfl, k1.put (by simp) _ _, by rw [gsi_ne (by decide)]; exact k2, fun p hp q hq => ?_⟩
              rw [gsi_r, gAny_s b, ho, decide_eq_false cl]
              by_cases z : p = X.ld a
              · rw [if_pos ⟨rfl, z⟩]
                apply bool_iff
                rw [b_put (show X.ld b < 32 by omega) hq, k3 _ la q hq, z]
                rw [show (q = X.ld b) = (X.ld b = q) from propext eq_comm]
                simp [or_assoc]
              · rw [if_neg (by rintro ⟨-, w⟩; exact z w), k3 p hp q hq]
                have : ¬ X.ld a = p := fun w => z w.symm
                simp [this])
        S4 ⟨h1, h2, fun p hp q hq => by simp [gAny_0]⟩ FU (FU_gt (by omega))
      refine ⟨S5, g1, g2, g3, fun p hp q hq => ?_⟩
      rw [g4 p hp q hq, h3 p hp q hq, gAny_s a])
    S3 ⟨c2, c3.1, fun p hp q hq => by rw [c3.2 p hp, b_0]; rfl⟩ FU (FU_gt (by omega))
  refine ⟨S4, ?_, d2, fun j hj => ?_, fun p hp => by rw [d3]; exact b3' p hp, d4⟩
  · rw [show (0 : Int32) = nI 0 from rfl] at *
    rw [a1, b1, c1, d1]
  · rw [d2.at 78 (by decide)]; exact hcn j hj
end

/-! treatments, statutes; what is known on a day, whole (the class) -/
def gTr (f : Nat → Nat → Int32) (cn : Nat → Bool) (kd : Int32) (c d n : Nat) : Prop := cn n = true ∧ f 15 n = kd ∧ (f 18 n).toNatClampNeg = c ∧ (f 17 n).toNatClampNeg = d
def gTp (f : Nat → Nat → Int32) (cn : Nat → Bool) (ld : Nat → Nat) (kd : Int32) (c p d n : Nat) : Prop := gTr f cn kd c d n ∧ ld (f 19 n).toNatClampNeg = p
theorem x_seeTreatments {S S0 : GS} {td np nk nn : Nat} {cn : Nat → Bool} {ld : Nat → Nat} (hnp : np ≤ 12) (hnk : nk ≤ 32) (hnn : nn ≤ 120) (h14 : S0.1 14 0 = nI nn) (hi : ∀ i, i < nn → IVn1 S0.1 td np nk i) (hF : Fr [36, 37, 38, 42, 43, 44, 45, 47] S0 S) (hc : ∀ i, i < nn → S.1 47 i = gz (cn i)) (hl : ∀ p, p < np → S.1 37 p = nI (ld p)) (hl2 : ∀ p, p < np → ld p < np) :
    ∃ S', fX3_seeTreatments S = some ((), S') ∧ Fr [39, 40, 41] S S' ∧ (∀ c, c < 32 → ∀ d, d < 32 → (bt (S'.1 39 c) d = true ↔ ∃ n, n < nn ∧ gTr S0.1 cn 4 c d n)) ∧
      (∀ c, c < 32 → ∀ p, p < 12 → ∀ d, d < 32 → (bt (S'.1 40 (c * 12 + p)) d = true ↔ ∃ n, n < nn ∧ gTp S0.1 cn ld 2 c p d n)) ∧ (∀ c, c < 32 → ∀ p, p < 12 → ∀ d, d < 32 → (bt (S'.1 41 (c * 12 + p)) d = true ↔ ∃ n, n < nn ∧ gTp S0.1 cn ld 3 c p d n)) := by
  unfold fX3_seeTreatments
  obtain ⟨Sa, a1, a2, a3⟩ := x_fill (S := S) (a := 39) rfl (by decide) 0
  obtain ⟨Sb, b1, b2, b3⟩ := x_fill (S := Sa) (a := 40) rfl (by decide) 0
  obtain ⟨Sd, d1, d2, d3⟩ := x_fill (S := Sb) (a := 41) rfl (by decide) 0
  have hab : Fr [39, 40, 41] S Sd := ((a2.tr b2).tr d2).mono (by simp)
  rw [a1, gbd_s, b1, gbd_s, d1, gbd_s, glet_s]
  have at' : ∀ S2, Fr [39, 40, 41] S S2 → ∀ c, c ∉ [36, 37, 38, 42, 43, 44, 45, 47, 39, 40, 41] → ∀ j, S2.1 c j = S0.1 c j := fun S2 h c h1 j => by rw [h.at c (by simp at h1 ⊢; exact h1.2.2.2.2.2.2.2.2), hF.at c (by simp at h1 ⊢; omega)]
  obtain ⟨S', q1, q2, q3, q4, q5⟩ := up_loop (fun n S i => fX3_seeTreatments_26 n S i) nn (fun i S2 => Fr [39, 40, 41] S S2 ∧ (∀ c, c < 32 → ∀ d, d < 32 → (bt (S2.1 39 c) d = true ↔ ∃ n, n < i ∧ gTr S0.1 cn 4 c d n)) ∧
      (∀ c, c < 32 → ∀ p, p < 12 → ∀ d, d < 32 → (bt (S2.1 40 (c * 12 + p)) d = true ↔ ∃ n, n < i ∧ gTp S0.1 cn ld 2 c p d n)) ∧ (∀ c, c < 32 → ∀ p, p < 12 → ∀ d, d < 32 → (bt (S2.1 41 (c * 12 + p)) d = true ↔ ∃ n, n < i ∧ gTp S0.1 cn ld 3 c p d n))) (fun S => some ((), S))
    (fun n S2 h => by rw [fX3_seeTreatments_26, at' S2 h.1 14 (by decide), h14, if_pos (nI_le (Nat.le_refl _) (by omega))])
    (fun n i S2 hin h => by
      obtain ⟨hf, h39, h40, h41⟩ := h
      have e15 := at' S2 hf 15 (by decide) i
      have e47 : S2.1 47 i = gz (cn i) := by rw [hf.at 47 (by decide)]; exact hc i hin
      have ei : (nI i).toNatClampNeg = i := nI_clamp (by omega)
      have gi : gib (nI i) 120 = true := gib_nI (by omega) (by decide)
      -- growing an 'exists' by a row that does not fit, or does
      have no : ∀ P : Nat → Prop, ¬ P i → ((∃ n, n < i ∧ P n) ↔ ∃ n, n < i + 1 ∧ P n) := by
        intro P hP
        constructor
        · rintro ⟨n, x1, x2⟩; exact ⟨n, by omega, x2⟩
        · rintro ⟨n, x1, x2⟩
          by_cases hni : n = i
          · subst hni; exact absurd x2 hP
          · exact ⟨n, by omega, x2⟩
      have yes : ∀ P : Nat → Prop, ((∃ n, n < i ∧ P n) ∨ P i) ↔ ∃ n, n < i + 1 ∧ P n := by
        intro P
        constructor
        · rintro (⟨n, x1, x2⟩ | x)
          · exact ⟨n, by omega, x2⟩
          · exact ⟨i, by omega, x⟩
        · rintro ⟨n, x1, x2⟩
          by_cases hni : n = i
          · subst hni; exact Or.inr x2
          · exact Or.inl ⟨n, by omega, x2⟩
      have w := hi i hin
      rw [fX3_seeTreatments_26, at' S2 hf 14 (by decide), h14, if_neg (nI_ge hin (by omega)), x_counts (b := cn i) (by omega) e47 4, x_counts (b := cn i) (by omega) e47 2, x_counts (b := cn i) (by omega) e47 3, e15, gbv_s]
      simp only [gz_0, gbv_s]
      by_cases c4 : (cn i && decide (S0.1 15 i = 4)) = true
      · -- an undoing
        have c4' : cn i = true ∧ S0.1 15 i = 4 := by simpa using c4
        obtain ⟨v1, v2, v3, v4, v5⟩ := w.2.2.2.2.2.1 (by rw [c4'.2]; decide) (by rw [c4'.2]; decide)
        obtain ⟨o1, o2⟩ := gib_all v4 (by omega)
        obtain ⟨d1', d2'⟩ := gib_all v3 (by omega)
        rw [if_neg (by rw [c4]; decide), if_pos gi, ei, at' S2 hf 18 (by decide), at' S2 hf 17 (by decide), if_pos (gib_ge v4 hnk)]
        simp only [glet_s, nI_1]
        rw [d2']
        generalize hD : (S0.1 17 i).toNatClampNeg = D at d1' ⊢
        generalize hO : (S0.1 18 i).toNatClampNeg = O at o1 ⊢
        refine ⟨_, rfl, hf.put (by simp) _ _, fun c hcc d hdd => ?_, fun c hcc p hp d hdd => ?_, fun c hcc p hp d hdd => ?_⟩
        · rw [← yes]
          by_cases hcO : c = O
          · have e : (gsi S2 39 O (S2.1 39 O ||| (1 : Int32) <<< (nI D &&& 31))).1 39 c = S2.1 39 c ||| (1 : Int32) <<< (nI D &&& 31) := by simp [gsi_r, hcO]
            rw [e, b_put (by omega) hdd, h39 c hcc d hdd]
            constructor
            · rintro (x | x)
              · exact Or.inl x
              · exact Or.inr ⟨c4'.1, c4'.2, by rw [hO, hcO], by rw [hD, x]⟩
            · rintro (x | ⟨x1, x2, x3, x4⟩)
              · exact Or.inl x
              · exact Or.inr (by rw [← x4, hD])
          · have e : (gsi S2 39 O (S2.1 39 O ||| (1 : Int32) <<< (nI D &&& 31))).1 39 c = S2.1 39 c := by simp [gsi_r, hcO]
            rw [e, h39 c hcc d hdd]
            constructor
            · exact Or.inl
            · rintro (x | ⟨x1, x2, x3, x4⟩)
              · exact x
              · exact absurd (by rw [← x3, hO]) hcO
        · rw [← no _ (fun x => by have := x.1.2.1; rw [c4'.2] at this; exact absurd this (by decide))]
          simpa [gsi_r] using h40 c hcc p hp d hdd
        · rw [← no _ (fun x => by have := x.1.2.1; rw [c4'.2] at this; exact absurd this (by decide))]
          simpa [gsi_r] using h41 c hcc p hp d hdd
      · have c4f : (cn i && decide (S0.1 15 i = 4)) = false := by simpa using c4
        have n4 : ∀ c d, ¬ gTr S0.1 cn 4 c d i := fun c d x => c4 (by rw [x.1, decide_eq_true x.2.1]; rfl)
        rw [if_pos c4f]
        -- overruling or doubt: the same, by cell
        have tre : ∀ (kd : Int32), kd = 2 ∨ kd = 3 → cn i = true → S0.1 15 i = kd → ∃ O D P, O < nk ∧ D < nk ∧ P < np ∧ S0.1 18 i = nI O ∧ S0.1 17 i = nI D ∧ (S0.1 19 i).toNatClampNeg = P ∧ gib (S0.1 19 i) 12 = true ∧ (∀ c p d, gTp S0.1 cn ld kd c p d i ↔ (c = O ∧ p = ld P ∧ d = D)) := by
          intro kd hkd h1 h2
          have z1 : (1 : Int32) < S0.1 15 i := by rw [h2]; rcases hkd with rfl | rfl <;> decide
          have z2 : S0.1 15 i ≤ 4 := by rw [h2]; rcases hkd with rfl | rfl <;> decide
          have z3 : S0.1 15 i < 4 := by rw [h2]; rcases hkd with rfl | rfl <;> decide
          obtain ⟨v1, v2, v3, v4, v5, v6, v7, v8⟩ := w.2.2.2.2.2.1 z1 z2
          obtain ⟨v9, v10⟩ := v8 z3
          refine ⟨_, _, _, (gib_all v4 (by omega)).1, (gib_all v3 (by omega)).1, (gib_all v10 (by omega)).1, (gib_all v4 (by omega)).2, (gib_all v3 (by omega)).2, rfl, gib_ge v10 hnp, fun c p d => ?_⟩
          constructor
          · rintro ⟨⟨x1, x2, x3, x4⟩, x5⟩; exact ⟨x3.symm, x5.symm, x4.symm⟩
          · rintro ⟨x3, x5, x4⟩; exact ⟨⟨h1, h2, x3.symm, x4.symm⟩, x5.symm⟩
        have place : ∀ (O P : Nat) (S3 : GS), fX3_placeOf S3 (nI O) (nI P) = some (nI (O * 12 + P)) := fun O P S3 => by
          unfold fX3_placeOf
          rw [show (12 : Int32) = nI 12 from rfl, pk_mul, nI_add]
        by_cases c2 : (cn i && decide (S0.1 15 i = 2)) = true
        · have c2' : cn i = true ∧ S0.1 15 i = 2 := by simpa using c2
          obtain ⟨O, D, P, t1, t2, t3, t4, t5, t6, t7, t8⟩ := tre 2 (Or.inl rfl) c2'.1 c2'.2
          have hlP := hl2 P t3
          rw [if_neg (by rw [c2]; decide), if_pos gi, ei, at' S2 hf 19 (by decide), if_pos t7, at' S2 hf 18 (by decide), at' S2 hf 17 (by decide), t4, t5, t6, hf.at 37 (by decide), hl P t3, place, gbv_s, if_pos (gib_nI (show O * 12 + ld P < 384 by omega) (by decide)), nI_clamp (by omega)]
          simp only [glet_s, nI_1]
          refine ⟨_, rfl, hf.put (by simp) _ _, fun c hcc d hdd => ?_, fun c hcc p hp d hdd => ?_, fun c hcc p hp d hdd => ?_⟩
          · rw [← no _ (n4 c d)]; simpa [gsi_r] using h39 c hcc d hdd
          · rw [← yes, t8]
            by_cases hcO : c * 12 + p = O * 12 + ld P
            · have e : (gsi S2 40 (O * 12 + ld P) (S2.1 40 (O * 12 + ld P) ||| (1 : Int32) <<< (nI D &&& 31))).1 40 (c * 12 + p) = S2.1 40 (c * 12 + p) ||| (1 : Int32) <<< (nI D &&& 31) := by rw [hcO]; simp [gsi_r]
              rw [e, b_put (by omega) hdd, h40 c hcc p hp d hdd]
              have : (c = O ∧ p = ld P ∧ d = D) ↔ d = D := ⟨fun x => x.2.2, fun x => ⟨by omega, by omega, x⟩⟩
              rw [this]
            · have e : (gsi S2 40 (O * 12 + ld P) (S2.1 40 (O * 12 + ld P) ||| (1 : Int32) <<< (nI D &&& 31))).1 40 (c * 12 + p) = S2.1 40 (c * 12 + p) := by simp [gsi_r, hcO]
              rw [e, h40 c hcc p hp d hdd]
              constructor
              · exact Or.inl
              · rintro (x | ⟨x1, x2, x3⟩)
                · exact x
                · exact absurd (by rw [x1, x2]) hcO
          · rw [← no _ (fun x => by have := x.1.2.1; rw [c2'.2] at this; exact absurd this (by decide))]
            simpa [gsi_r] using h41 c hcc p hp d hdd
        · have c2f : (cn i && decide (S0.1 15 i = 2)) = false := by simpa using c2
          have n2 : ∀ c p d, ¬ gTp S0.1 cn ld 2 c p d i := fun c p d x => c2 (by rw [x.1.1, decide_eq_true x.1.2.1]; rfl)
          rw [if_pos c2f]
          by_cases c3 : (cn i && decide (S0.1 15 i = 3)) = true
          · have c3' : cn i = true ∧ S0.1 15 i = 3 := by simpa using c3
            obtain ⟨O, D, P, t1, t2, t3, t4, t5, t6, t7, t8⟩ := tre 3 (Or.inr rfl) c3'.1 c3'.2
            have hlP := hl2 P t3
            rw [if_neg (by rw [c3]; decide), if_pos gi, ei, at' S2 hf 19 (by decide), if_pos t7, at' S2 hf 18 (by decide), at' S2 hf 17 (by decide), t4, t5, t6, hf.at 37 (by decide), hl P t3, place, gbv_s, if_pos (gib_nI (show O * 12 + ld P < 384 by omega) (by decide)), nI_clamp (by omega)]
            simp only [glet_s, nI_1]
            refine ⟨_, rfl, hf.put (by simp) _ _, fun c hcc d hdd => ?_, fun c hcc p hp d hdd => ?_, fun c hcc p hp d hdd => ?_⟩
            · rw [← no _ (n4 c d)]; simpa [gsi_r] using h39 c hcc d hdd
            · rw [← no _ (n2 c p d)]; simpa [gsi_r] using h40 c hcc p hp d hdd
            · rw [← yes, t8]
              by_cases hcO : c * 12 + p = O * 12 + ld P
              · have e : (gsi S2 41 (O * 12 + ld P) (S2.1 41 (O * 12 + ld P) ||| (1 : Int32) <<< (nI D &&& 31))).1 41 (c * 12 + p) = S2.1 41 (c * 12 + p) ||| (1 : Int32) <<< (nI D &&& 31) := by rw [hcO]; simp [gsi_r]
                rw [e, b_put (by omega) hdd, h41 c hcc p hp d hdd]
                have : (c = O ∧ p = ld P ∧ d = D) ↔ d = D := ⟨fun x => x.2.2, fun x => ⟨by omega, by omega, x⟩⟩
                rw [this]
              · have e : (gsi S2 41 (O * 12 + ld P) (S2.1 41 (O * 12 + ld P) ||| (1 : Int32) <<< (nI D &&& 31))).1 41 (c * 12 + p) = S2.1 41 (c * 12 + p) := by simp [gsi_r, hcO]
                rw [e, h41 c hcc p hp d hdd]
                constructor
                · exact Or.inl
                · rintro (x | ⟨x1, x2, x3⟩)
                  · exact x
                  · exact absurd (by rw [x1, x2]) hcO
          · have c3f : (cn i && decide (S0.1 15 i = 3)) = false := by simpa using c3
            have n3 : ∀ c p d, ¬ gTp S0.1 cn ld 3 c p d i := fun c p d x => c3 (by rw [x.1.1, decide_eq_true x.1.2.1]; rfl)
            rw [if_pos c3f]
            simp only [glet_s, nI_1]
            refine ⟨S2, rfl, hf, fun c hcc d hdd => ?_, fun c hcc p hp d hdd => ?_, fun c hcc p hp d hdd => ?_⟩
            · rw [← no _ (n4 c d)]; exact h39 c hcc d hdd
            · rw [← no _ (n2 c p d)]; exact h40 c hcc p hp d hdd
            · rw [← no _ (n3 c p d)]; exact h41 c hcc p hp d hdd)
    Sd ⟨hab, fun c hcc d hdd => by
        rw [d2.at 39 (by decide), b2.at 39 (by decide), a3 c (by show c < 32; omega), b_0]
        exact ⟨fun z => (by cases z), fun ⟨n, x1, _⟩ => absurd x1 (Nat.not_lt_zero _)⟩, fun c hcc p hp d hdd => by
        rw [d2.at 40 (by decide), b3 (c * 12 + p) (by show c * 12 + p < 384; omega), b_0]
        exact ⟨fun z => (by cases z), fun ⟨n, x1, _⟩ => absurd x1 (Nat.not_lt_zero _)⟩, fun c hcc p hp d hdd => by
        rw [d3 (c * 12 + p) (by show c * 12 + p < 384; omega), b_0]
        exact ⟨fun z => (by cases z), fun ⟨n, x1, _⟩ => absurd x1 (Nat.not_lt_zero _)⟩⟩ FU (FU_gt (by omega))
  exact ⟨S', q1, q2, q3, q4, q5⟩
/-- a statute that counts -/
def gStt (f : Nat → Nat → Int32) (cn : Nat → Bool) (n : Nat) : Bool := cn n && (decide (f 15 n = 5) || decide (f 15 n = 6))
theorem x_seeStatutes {S S0 : GS} {nn : Nat} {cn : Nat → Bool} (hnn : nn ≤ 120) (h14 : S.1 14 0 = nI nn) (h15 : ∀ i, S.1 15 i = S0.1 15 i) (hc : ∀ i, i < nn → S.1 47 i = gz (cn i)) :
    ∃ S', fX3_seeStatutes S = some ((), S') ∧ Fr [36, 46] S S' ∧ S'.1 36 3 = S.1 36 3 ∧ S'.1 36 14 = nI (fb_ct (gStt S0.1 cn) nn) ∧ ∀ n, n < nn → gStt S0.1 cn n = true → S'.1 46 (fb_ct (gStt S0.1 cn) n) = nI n := by
  unfold fX3_seeStatutes
  simp only [glet_s]
  obtain ⟨S', q1, q2, q3, q4, q5⟩ := up_loop (fun n S i => fX3_seeStatutes_7 n S i) nn (fun i S2 => Fr [36, 46] S S2 ∧ S2.1 36 3 = S.1 36 3 ∧ S2.1 36 14 = nI (fb_ct (gStt S0.1 cn) i) ∧ ∀ n, n < i → gStt S0.1 cn n = true → S2.1 46 (fb_ct (gStt S0.1 cn) n) = nI n) (fun S => some ((), S))
    (fun n S2 h => by rw [fX3_seeStatutes_7, h.1.at 14 (by decide), h14, if_pos (nI_le (Nat.le_refl _) (by omega))])
    (fun n i S2 hin h => by
      obtain ⟨hf, h3, h36, h46⟩ := h
      have e15 : S2.1 15 i = S0.1 15 i := by rw [hf.at 15 (by decide), h15]
      have e47 : S2.1 47 i = gz (cn i) := by rw [hf.at 47 (by decide)]; exact hc i hin
      have hle : fb_ct (gStt S0.1 cn) i < 120 := by have := fb_ct_le (gStt S0.1 cn) i; omega
      have yes : gStt S0.1 cn i = true → ∃ S', fX3_seeStatutes_37 (fX3_seeStatutes_7 n) S2 (nI i) = fX3_seeStatutes_7 n S' (nI (i + 1)) ∧ Fr [36, 46] S S' ∧ S'.1 36 3 = S.1 36 3 ∧ S'.1 36 14 = nI (fb_ct (gStt S0.1 cn) (i + 1)) ∧ ∀ n, n < i + 1 → gStt S0.1 cn n = true → S'.1 46 (fb_ct (gStt S0.1 cn) n) = nI n := by
        intro hy
        unfold fX3_seeStatutes_37
        rw [h36, if_pos (gib_nI hle (by decide)), nI_clamp (by omega)]
        have z : (gsi S2 46 (fb_ct (gStt S0.1 cn) i) (nI i)).1 36 14 = nI (fb_ct (gStt S0.1 cn) i) := by simpa [gsi_r] using h36
        simp only [glet_s, z, nI_1]
        refine ⟨_, rfl, (hf.put (by simp) _ _).put (by simp) _ _, by simpa [gsi_r] using h3, by simp [gsi_r, fb_ct_succ, hy], fun m hm hg => ?_⟩
        by_cases hmi : m = i
        · subst hmi; simp [gsi_r]
        · have : fb_ct (gStt S0.1 cn) m ≠ fb_ct (gStt S0.1 cn) i := fun q => hmi (fb_ct_kth_one hg hy q)
          simp [gsi_r, this]
          exact h46 m (by omega) hg
      rw [fX3_seeStatutes_7, hf.at 14 (by decide), h14, if_neg (nI_ge hin (by omega)), x_counts (b := cn i) (by omega) e47 5, x_counts (b := cn i) (by omega) e47 6, e15, gbv_s]
      simp only [gz_0, gbv_s]
      by_cases c5 : (cn i && decide (S0.1 15 i = 5)) = false
      · rw [if_pos c5]
        by_cases c6 : (cn i && decide (S0.1 15 i = 6)) = false
        · rw [if_pos c6, glet_s, nI_1]
          have hz : gStt S0.1 cn i = false := by
            unfold gStt
            cases hcn : cn i
            · rfl
            · rw [hcn] at c5 c6; simpa using ⟨by simpa using c5, by simpa using c6⟩
          refine ⟨S2, rfl, hf, h3, by rw [fb_ct_succ, hz]; simpa using h36, fun m hm hg => ?_⟩
          by_cases hmi : m = i
          · subst hmi; rw [hz] at hg; cases hg
          · exact h46 m (by omega) hg
        · rw [if_neg c6]
          exact yes (by have : cn i = true ∧ S0.1 15 i = 6 := by simpa using c6
                        simp [gStt, this])
      · rw [if_neg c5]
        exact yes (by have : cn i = true ∧ S0.1 15 i = 5 := by simpa using c5
                      simp [gStt, this]))
    (gsi S 36 14 0) ⟨Fr.rf.put (by simp) _ _, by simp [gsi_r], by simp [gsi_r]; rfl, fun n hn => absurd hn (Nat.not_lt_zero n)⟩ FU (FU_gt (by omega))
  exact ⟨S', q1, q2, q3, q4, q5⟩
/-- the class's tables of what is known on a day: of the state S0, on the day k, but one case -/
def Kn (S0 S : GS) (np nk nn : Nat) (k wo : Int32) : Prop :=
  (∀ c, c < 32 → bt (S.1 36 3) c = gSn S0.1 k wo nk c) ∧
  (∀ p, p < np → S.1 37 p = nI (gLd S0.1 (gCn S0.1 k wo nn) nn p)) ∧
  (∀ p, p < 12 → ∀ q, q < 32 → (bt (S.1 38 p) q = true ↔ ∃ a b, a < np ∧ b < np ∧ gAg S0.1 (gLd S0.1 (gCn S0.1 k wo nn) nn) a b p q)) ∧
  (∀ c, c < 32 → ∀ d, d < 32 → (bt (S.1 39 c) d = true ↔ ∃ n, n < nn ∧ gTr S0.1 (gCn S0.1 k wo nn) 4 c d n)) ∧
  (∀ c, c < 32 → ∀ p, p < 12 → ∀ d, d < 32 → (bt (S.1 40 (c * 12 + p)) d = true ↔ ∃ n, n < nn ∧ gTp S0.1 (gCn S0.1 k wo nn) (gLd S0.1 (gCn S0.1 k wo nn) nn) 2 c p d n)) ∧
  (∀ c, c < 32 → ∀ p, p < 12 → ∀ d, d < 32 → (bt (S.1 41 (c * 12 + p)) d = true ↔ ∃ n, n < nn ∧ gTp S0.1 (gCn S0.1 k wo nn) (gLd S0.1 (gCn S0.1 k wo nn) nn) 3 c p d n)) ∧
  (∀ p, p < 12 → ∀ c, c < 32 → (bt (S.1 42 p) c = true ↔ ∃ n, n < nn ∧ gOpc S0.1 (gCn S0.1 k wo nn) c n = true ∧ gLd S0.1 (gCn S0.1 k wo nn) nn (S0.1 19 n).toNatClampNeg = p)) ∧
  (∀ c, c < nk → ∃ s e, s ≤ e ∧ e ≤ 120 ∧ S.1 44 c = nI s ∧ S.1 45 c = nI e ∧ (∀ i, s ≤ i → i < e → ∃ n, n < nn ∧ S.1 43 i = nI n ∧ gOpc S0.1 (gCn S0.1 k wo nn) c n = true) ∧ (∀ n, n < nn → gOpc S0.1 (gCn S0.1 k wo nn) c n = true → ∃ i, s ≤ i ∧ i < e ∧ S.1 43 i = nI n)) ∧
  S.1 36 14 = nI (fb_ct (gStt S0.1 (gCn S0.1 k wo nn)) nn) ∧ (∀ n, n < nn → gStt S0.1 (gCn S0.1 k wo nn) n = true → S.1 46 (fb_ct (gStt S0.1 (gCn S0.1 k wo nn)) n) = nI n)
theorem Kn.cg {S0 S S' : GS} {np nk nn : Nat} {k wo : Int32} (h : Kn S0 S np nk nn k wo) (e36 : S'.1 36 = S.1 36) (e : ∀ c, 37 ≤ c → c ≤ 46 → S'.1 c = S.1 c) : Kn S0 S' np nk nn k wo := by
  unfold Kn at h ⊢
  rw [e36, e 37 (by decide) (by decide), e 38 (by decide) (by decide), e 39 (by decide) (by decide), e 40 (by decide) (by decide), e 41 (by decide) (by decide), e 42 (by decide) (by decide), e 43 (by decide) (by decide), e 44 (by decide) (by decide), e 45 (by decide) (by decide), e 46 (by decide) (by decide)]
  exact h
theorem jn_lt {f : Nat → Nat → Int32} {td np nk nn : Nat} (hnp : np ≤ 12) (hi : ∀ i, i < nn → IVn1 f td np nk i) {cn : Nat → Bool} : ∀ p, p < np → gLd f cn nn p < np :=
  gLd_lt (fun i hin h7 => by
    obtain ⟨w1, w2, w3, w4, w5, w6, w7, w8, w9⟩ := hi i hin
    exact ⟨(gib_c (w8 h7).2.2.1 (by omega)).1, (gib_c (w8 h7).2.2.2 (by omega)).1⟩)
theorem x_see {S0 : GS} {td np nk nn : Nat} (hnp : np ≤ 12) (hnk : nk ≤ 32) (hnn : nn ≤ 120) (h5 : S0.1 5 0 = nI np) (h7 : S0.1 7 0 = nI nk) (h14 : S0.1 14 0 = nI nn) (hi : ∀ i, i < nn → IVn1 S0.1 td np nk i) (k wo : Int32) :
    ∃ S', fX3_see S0 k wo = some ((), S') ∧ Fr [36, 37, 38, 39, 40, 41, 42, 43, 44, 45, 46, 47] S0 S' ∧ Kn S0 S' np nk nn k wo := by
  unfold fX3_see
  obtain ⟨S1, a1, a2, a3, a4⟩ := x_seeCases h7 hnk k wo
  rw [a1, gbd_s]
  obtain ⟨S2, b1, b2, b3⟩ := x_seeNotes (S := S1) (S0 := S0) (td := td) (np := np) hnk hnn h14 hi a2 a4
  rw [b1, gbd_s]
  have l2 : ∀ p, p < np → gLd S0.1 (gCn S0.1 k wo nn) nn p < np := jn_lt hnp hi
  obtain ⟨S3, c1, c2, c3⟩ := x_seeJoinings (S := S2) (S0 := S0) (td := td) (nk := nk) (cn := gCn S0.1 k wo nn) hnp hnn h5 h14 hi ((a2.tr b2).mono (by simp)) b3
  rw [c1, gbd_s]
  obtain ⟨S4, d1, d2, d3⟩ := x_seeOpposed (S := S3) (S0 := S0) (ld := gLd S0.1 (gCn S0.1 k wo nn) nn) hnp h5 (((a2.tr b2).tr c2).mono (by simp)) c3 l2
  rw [d1, gbd_s]
  have f4 : Fr [36, 37, 38, 47] S0 S4 := (((a2.tr b2).tr c2).tr d2).mono (by simp)
  have e47 : ∀ i, i < nn → S4.1 47 i = gz (gCn S0.1 k wo nn i) := fun i h => by rw [d2.at 47 (by decide), c2.at 47 (by decide)]; exact b3 i h
  have e37 : ∀ p, p < np → S4.1 37 p = nI (gLd S0.1 (gCn S0.1 k wo nn) nn p) := fun p h => by rw [d2.at 37 (by decide)]; exact c3 p h
  obtain ⟨S5, g1, g2, g3, g4⟩ := x_seeOpinions (S := S4) (S0 := S0) (td := td) (cn := gCn S0.1 k wo nn) (ld := gLd S0.1 (gCn S0.1 k wo nn) nn) hnp hnk hnn h7 h14 hi f4 e47 e37 l2
  rw [g1, gbd_s]
  have f5 : Fr [36, 37, 38, 42, 43, 44, 45, 47] S0 S5 := (f4.tr g2).mono (by simp)
  obtain ⟨S6, m1, m2, m3, m4, m5⟩ := x_seeTreatments (S := S5) (S0 := S0) (td := td) (cn := gCn S0.1 k wo nn) (ld := gLd S0.1 (gCn S0.1 k wo nn) nn) hnp hnk hnn h14 hi f5 (fun i h => by rw [g2.at 47 (by decide)]; exact e47 i h) (fun p h => by rw [g2.at 37 (by decide)]; exact e37 p h) l2
  rw [m1, gbd_s]
  have f6 : Fr [36, 37, 38, 39, 40, 41, 42, 43, 44, 45, 47] S0 S6 := (f5.tr m2).mono (by simp)
  obtain ⟨S7, n1, n2, n3, n4, n5⟩ := x_seeStatutes (S := S6) (S0 := S0) (cn := gCn S0.1 k wo nn) hnn (by rw [f6.at 14 (by decide)]; exact h14) (fun i => by rw [f6.at 15 (by decide)]) (fun i h => by rw [m2.at 47 (by decide), g2.at 47 (by decide)]; exact e47 i h)
  rw [n1, gbd_s]
  refine ⟨S7, rfl, (f6.tr n2).mono (by simp), ?_, ?_, ?_, ?_, ?_, ?_, ?_, ?_, n4, n5⟩
  · intro c hc
    rw [n3, m2.at 36 (by decide), g2.at 36 (by decide), d2.at 36 (by decide), c2.at 36 (by decide), b2.at 36 (by decide)]
    exact a4 c hc
  · intro p hp
    rw [n2.at 37 (by decide), m2.at 37 (by decide), g2.at 37 (by decide)]
    exact e37 p hp
  · intro p hp q hq
    rw [n2.at 38 (by decide), m2.at 38 (by decide), g2.at 38 (by decide)]
    exact d3 p hp q hq
  · intro c hc d hd
    rw [n2.at 39 (by decide)]
    exact m3 c hc d hd
  · intro c hc p hp d hd
    rw [n2.at 40 (by decide)]
    exact m4 c hc p hp d hd
  · intro c hc p hp d hd
    rw [n2.at 41 (by decide)]
    exact m5 c hc p hp d hd
  · intro p hp c hc
    rw [n2.at 42 (by decide), m2.at 42 (by decide)]
    exact g3 p hp c hc
  · intro c hc
    obtain ⟨s, e, h⟩ := g4 c hc
    refine ⟨s, e, ?_⟩
    simp only [n2.1 44 (by decide), n2.1 45 (by decide), n2.1 43 (by decide), m2.1 44 (by decide), m2.1 45 (by decide), m2.1 43 (by decide)]
    exact h

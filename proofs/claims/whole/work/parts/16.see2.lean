theorem gz_0 (b : Bool) : (gz b = 0) = (b = false) := by cases b <;> simp [gz]
theorem le_not (a b : Int32) : (a ≤ b) = ¬ (b < a) := by
  apply propext
  rw [fa_le, fa_lt]
  omega
theorem x_seeNotes {S S0 : GS} {td np nk nn : Nat} {k wo : Int32} (hnk : nk ≤ 32) (hnn : nn ≤ 120) (h14 : S0.1 14 0 = nI nn) (hi : ∀ i, i < nn → IVn1 S0.1 td np nk i) (hF : Fr [36] S0 S) (hb : ∀ c, c < 32 → bt (S.1 36 3) c = gSn S0.1 k wo nk c) :
    ∃ S', fX3_seeNotes S k = some ((), S') ∧ Fr [47] S S' ∧ ∀ i, i < nn → S'.1 47 i = gz (gCn S0.1 k wo nn i) := by
  unfold fX3_seeNotes
  rw [glet_s]
  have e14 : ∀ S2, Fr [47] S S2 → S2.1 14 0 = nI nn := fun S2 h => by rw [h.at 14 (by decide), hF.at 14 (by decide), h14]
  have at' : ∀ S2, Fr [47] S S2 → ∀ c, c ≠ 36 → c ≠ 47 → ∀ j, S2.1 c j = S0.1 c j := fun S2 h c h1 h2 j => by rw [h.at c (by simp [h2]), hF.at c (by simp [h1])]
  -- the first loop
  obtain ⟨S1, h1, h2, h3⟩ := up_loop (fun n S i => fX3_seeNotes_2 n S k i) nn (fun i S2 => Fr [47] S S2 ∧ ∀ j, j < i → S2.1 47 j = gz (decide (S0.1 16 j ≤ k) && !(gOf S0.1 wo j))) (fun S => fX3_seeNotes_61 FU S (nI nn - 1))
    (fun n S2 h => by rw [fX3_seeNotes_2, e14 S2 h.1, if_pos (nI_le (Nat.le_refl _) (by omega)), glet_s])
    (fun n i S2 hin h => by
      have ei : (nI i).toNatClampNeg = i := nI_clamp (by omega)
      have g : gib (nI i) 120 = true := gib_nI (by omega) (by decide)
      have put : ∀ b : Bool, b = (decide (S0.1 16 i ≤ k) && !(gOf S0.1 wo i)) → (Fr [47] S (gsi S2 47 i (gz b)) ∧ ∀ j, j < i + 1 → (gsi S2 47 i (gz b)).1 47 j = gz (decide (S0.1 16 j ≤ k) && !(gOf S0.1 wo j))) := by
        intro b hb2
        refine ⟨h.1.put (by simp) _ _, fun j hj => ?_⟩
        by_cases hji : j = i
        · subst hji; simp [gsi_r, hb2]
        · simp [gsi_r, hji]; simpa using h.2 j (by omega)
      rw [fX3_seeNotes_2, e14 S2 h.1, if_neg (nI_ge hin (by omega)), if_pos g, ei, at' S2 h.1 16 (by decide) (by decide)]
      by_cases c1 : k < S0.1 16 i
      · rw [if_pos c1, fX3_seeNotes_43, if_pos g]
        simp only [glet_s, ei, nI_1]
        have := put false (by simp [le_not, c1])
        exact ⟨_, rfl, this⟩
      · rw [if_neg c1, x_ofSeen (S0 := S0) (td := td) (np := np) (wo := wo) (k := k) hnk hin hnn (hi i hin) ((hF.tr h.1).mono (by simp)) (fun c hc => by rw [h.1.at 36 (by decide)]; exact hb c hc) c1, gbv_s]
        cases hof : gOf S0.1 wo i
        · simp only [Bool.not_false, gz_t, if_neg i10]
          have := put true (by simp [le_not, c1, hof])
          exact ⟨gsi S2 47 i (gz true), by simp only [glet_s, nI_1, gz_t], this⟩
        · simp only [Bool.not_true, gz_f, if_true]
          rw [fX3_seeNotes_43, if_pos g]
          simp only [glet_s, ei, nI_1]
          have := put false (by simp [hof])
          exact ⟨_, rfl, this⟩)
    S ⟨Fr.rf, fun j hj => absurd hj (Nat.not_lt_zero j)⟩ FU (FU_gt (by omega))
  rw [show (0 : Int32) = nI 0 from rfl, h1]
  obtain ⟨S3, q1, q2, q3⟩ := down_loop (fun n S i => fX3_seeNotes_61 n S i) (fun i S2 => Fr [47] S S2 ∧ i ≤ nn ∧ ∀ j, j < nn → S2.1 47 j = gz (decide (S0.1 16 j ≤ k) && !(gOf S0.1 wo j) && !(gStr S0.1 k nn (nn - i) j))) (fun S => some ((), S))
    (fun n S2 h => by rw [fX3_seeNotes_61, if_pos (by decide)])
    (fun n i S2 h => by
      obtain ⟨hf, hle, hc⟩ := h
      have ei : (nI i).toNatClampNeg = i := nI_clamp (by omega)
      have g : gib (nI i) 120 = true := gib_nI (by omega) (by decide)
      have ed : nn - i = (nn - (i + 1)) + 1 := by omega
      have em : nn - ((nn - (i + 1)) + 1) = i := by omega
      obtain ⟨w1, w2, w3, w4, w5, w6, w7, w8, w9⟩ := hi i (by omega)
      have keep : (¬ (S0.1 16 i ≤ k) ∨ gStr S0.1 k nn (nn - (i + 1)) i = true ∨ ¬ S0.1 15 i = 8) → Fr [47] S S2 ∧ i ≤ nn ∧ ∀ j, j < nn → S2.1 47 j = gz (decide (S0.1 16 j ≤ k) && !(gOf S0.1 wo j) && !(gStr S0.1 k nn (nn - i) j)) := by
        intro hz
        refine ⟨hf, by omega, fun j hj => ?_⟩
        rw [hc j hj, ed, gStr, em]
        rcases hz with z | z | z <;> simp [z]
      rw [fX3_seeNotes_61, if_neg (nI_pos (by omega)), if_pos g, ei, hc i (by omega)]
      simp only [gz_0, glet_s, m1_eq]
      by_cases c1 : (decide (S0.1 16 i ≤ k) && !(gOf S0.1 wo i) && !(gStr S0.1 k nn (nn - (i + 1)) i)) = false
      · rw [if_pos c1]
        refine ⟨S2, rfl, ?_⟩
        by_cases c8 : S0.1 15 i = 8
        · have : gOf S0.1 wo i = false := by
            have z : ¬ S0.1 15 i ≤ 4 := by rw [c8]; decide
            simp [gOf, z]
          rw [this] at c1
          apply keep
          cases hstr : gStr S0.1 k nn (nn - (i + 1)) i
          · rw [hstr] at c1; left; simpa using c1
          · right; left; rfl
        · exact keep (Or.inr (Or.inr c8))
      · rw [if_neg c1, at' S2 hf 15 (by decide) (by decide)]
        by_cases c8 : S0.1 15 i = 8
        · rw [if_pos c8, at' S2 hf 18 (by decide) (by decide), if_pos (gib_ge (w9 c8).2 (by omega))]
          refine ⟨_, rfl, hf.put (by simp) _ _, by omega, fun j hj => ?_⟩
          have c1' : S0.1 16 i ≤ k ∧ gStr S0.1 k nn (nn - (i + 1)) i = false := by
            simp only [Bool.and_eq_false_iff, not_or, Bool.not_eq_false] at c1
            exact ⟨by simpa using c1.1.1, by simpa using c1.2⟩
          rw [ed, gStr, em]
          by_cases hjo : j = (S0.1 18 i).toNatClampNeg
          · have : (gsi S2 47 (S0.1 18 i).toNatClampNeg 0).1 47 j = 0 := by simp [gsi_r, hjo]
            rw [this]
            simp [c1', c8, hjo, gz]
          · have : (gsi S2 47 (S0.1 18 i).toNatClampNeg 0).1 47 j = S2.1 47 j := by simp [gsi_r, hjo]
            rw [this, hc j hj]
            simp [hjo]
        · rw [if_neg c8]
          exact ⟨S2, rfl, keep (Or.inr (Or.inr c8))⟩)
    nn S1 ⟨h2, Nat.le_refl _, fun j hj => by rw [h3 j hj, Nat.sub_self, gStr]; simp⟩ FU (FU_gt (by omega))
  refine ⟨S3, q1, q2, fun i hin => ?_⟩
  rw [q3.2 i hin, Nat.sub_zero]
  unfold gCn
  congr 1
  cases decide (S0.1 16 i ≤ k) <;> cases gOf S0.1 wo i <;> cases gStr S0.1 k nn nn i <;> rfl
/-- points by the least that they are joined with, the first m notes looked at -/
def gLd (f : Nat → Nat → Int32) (cn : Nat → Bool) : Nat → Nat → Nat
  | 0 => fun p => p
  | m + 1 => fun p => if cn m = true ∧ f 15 m = 7 then
      (if gLd f cn m p = max (gLd f cn m (f 19 m).toNatClampNeg) (gLd f cn m (f 18 m).toNatClampNeg) then min (gLd f cn m (f 19 m).toNatClampNeg) (gLd f cn m (f 18 m).toNatClampNeg) else gLd f cn m p)
    else gLd f cn m p
theorem gLd_lt {f : Nat → Nat → Int32} {cn : Nat → Bool} {np m : Nat} (h : ∀ i, i < m → f 15 i = 7 → (f 19 i).toNatClampNeg < np ∧ (f 18 i).toNatClampNeg < np) : ∀ p, p < np → gLd f cn m p < np := by
  induction m with
  | zero => exact fun p hp => hp
  | succ m ih =>
    intro p hp
    have ih := ih (fun i hi => h i (by omega))
    unfold gLd
    by_cases c : cn m = true ∧ f 15 m = 7
    · rw [if_pos c]
      have h1 := ih _ (h m (by omega) c.2).1
      have h2 := ih _ (h m (by omega) c.2).2
      by_cases c2 : gLd f cn m p = max (gLd f cn m (f 19 m).toNatClampNeg) (gLd f cn m (f 18 m).toNatClampNeg)
      · rw [if_pos c2]; omega
      · rw [if_neg c2]; exact ih p hp
    · rw [if_neg c]; exact ih p hp
theorem x_rename {S : GS} {np a b : Nat} {L : Nat → Nat} (h5 : S.1 5 0 = nI np) (hnp : np ≤ 12) (hL : ∀ p, p < np → S.1 37 p = nI (L p) ∧ L p < np) (ha : a < 2 ^ 31) :
    ∃ S', fX3_rename S (nI a) (nI b) = some ((), S') ∧ Fr [37] S S' ∧ ∀ p, p < np → S'.1 37 p = nI (if L p = a then b else L p) := by
  unfold fX3_rename
  rw [glet_s]
  obtain ⟨S', h1, h2, h3, -⟩ := up_loop (fun n S i => fX3_rename_2 n S (nI a) (nI b) i) np (fun i S2 => Fr [37] S S2 ∧ (∀ p, p < i → S2.1 37 p = nI (if L p = a then b else L p)) ∧ ∀ p, i ≤ p → p < np → S2.1 37 p = nI (L p)) (fun S => some ((), S))
    (fun n S2 h => by rw [fX3_rename_2, h.1.at 5 (by decide), h5, if_pos (nI_le (Nat.le_refl _) (by omega))])
    (fun n i S2 hi h => by
      obtain ⟨hF, q1, q2⟩ := h
      have ei : (nI i).toNatClampNeg = i := nI_clamp (by omega)
      rw [fX3_rename_2, hF.at 5 (by decide), h5, if_neg (nI_ge hi (by omega)), if_pos (gib_nI (show i < 12 by omega) (by decide)), ei, q2 i (Nat.le_refl _) hi]
      simp only [nI_eq (show L i < 2 ^ 31 by have := (hL i hi).2; omega) ha, glet_s, nI_1]
      by_cases c : L i = a
      · rw [if_pos c]
        refine ⟨_, rfl, hF.put (by simp) _ _, fun p hp => ?_, fun p hp hp2 => ?_⟩
        · by_cases hpi : p = i
          · subst hpi; simp [gsi_r, c]
          · simp [gsi_r, hpi]; exact q1 p (by omega)
        · have : p ≠ i := by omega
          simp [gsi_r, this]; exact q2 p (by omega) hp2
      · rw [if_neg c]
        refine ⟨S2, rfl, hF, fun p hp => ?_, fun p hp hp2 => q2 p (by omega) hp2⟩
        by_cases hpi : p = i
        · subst hpi; rw [q2 p (Nat.le_refl _) hi, if_neg c]
        · exact q1 p (by omega))
    S ⟨Fr.rf, fun p hp => absurd hp (Nat.not_lt_zero p), fun p _ hp => (hL p hp).1⟩ FU (FU_gt (by omega))
  exact ⟨S', h1, h2, h3⟩
theorem x_counts {S : GS} {n : Nat} {b : Bool} (hn : n < 120) (h : S.1 47 n = gz b) (c : Int32) : fX3_counts S (nI n) c = some (gz (b && decide (S.1 15 n = c))) := by
  unfold fX3_counts
  rw [if_pos (gib_nI hn (by decide)), nI_clamp (by omega), h]
  simp only [gz_0]
  cases b
  · simp [gz]
  · by_cases c1 : S.1 15 n = c <;> simp [gz, c1]
theorem nI_max {a b : Nat} (ha : a < 2 ^ 31) (hb : b < 2 ^ 31) : (if nI a < nI b then nI b else nI a) = nI (max a b) := by
  simp only [nI_ltI ha hb]
  by_cases h : a < b
  · rw [if_pos h, Nat.max_eq_right (by omega)]
  · rw [if_neg h, Nat.max_eq_left (by omega)]
theorem nI_min {a b : Nat} (ha : a < 2 ^ 31) (hb : b < 2 ^ 31) : (if nI b < nI a then nI b else nI a) = nI (min a b) := by
  simp only [nI_ltI hb ha]
  by_cases h : b < a
  · rw [if_pos h, Nat.min_eq_right (by omega)]
  · rw [if_neg h, Nat.min_eq_left (by omega)]
theorem x_seeJoinings {S S0 : GS} {td np nk nn : Nat} {cn : Nat → Bool} (hnp : np ≤ 12) (hnn : nn ≤ 120) (h5 : S0.1 5 0 = nI np) (h14 : S0.1 14 0 = nI nn) (hi : ∀ i, i < nn → IVn1 S0.1 td np nk i) (hF : Fr [36, 47] S0 S) (hc : ∀ i, i < nn → S.1 47 i = gz (cn i)) :
    ∃ S', fX3_seeJoinings S = some ((), S') ∧ Fr [37] S S' ∧ ∀ p, p < np → S'.1 37 p = nI (gLd S0.1 cn nn p) := by
  have hj : ∀ i, i < nn → S0.1 15 i = 7 → (S0.1 19 i).toNatClampNeg < np ∧ (S0.1 18 i).toNatClampNeg < np := by
    intro i hin h7
    obtain ⟨w1, w2, w3, w4, w5, w6, w7, w8, w9⟩ := hi i hin
    exact ⟨(gib_c (w8 h7).2.2.1 (by omega)).1, (gib_c (w8 h7).2.2.2 (by omega)).1⟩
  have at' : ∀ S2, Fr [37] S S2 → ∀ c, c ≠ 36 → c ≠ 47 → c ≠ 37 → ∀ j, S2.1 c j = S0.1 c j := fun S2 h c h1 h2 h3 j => by rw [h.at c (by simp [h3]), hF.at c (by simp [h1, h2])]
  unfold fX3_seeJoinings
  rw [glet_s]
  obtain ⟨S1, h1, h2, h3⟩ := up_loop (fun n S i => fX3_seeJoinings_2 n S i) np (fun i S2 => Fr [37] S S2 ∧ ∀ p, p < i → S2.1 37 p = nI p) (fun S => fX3_seeJoinings_28 FU S (nI 0))
    (fun n S2 h => by rw [fX3_seeJoinings_2, at' S2 h.1 5 (by decide) (by decide) (by decide), h5, if_pos (nI_le (Nat.le_refl _) (by omega))]; rfl)
    (fun n i S2 hin h => by
      rw [fX3_seeJoinings_2, at' S2 h.1 5 (by decide) (by decide) (by decide), h5, if_neg (nI_ge hin (by omega)), if_pos (gib_nI (show i < 12 by omega) (by decide)), nI_clamp (by omega)]
      refine ⟨gsi S2 37 i (nI i), by simp only [glet_s, nI_1], h.1.put (by simp) _ _, fun p hp => ?_⟩
      by_cases hpi : p = i
      · subst hpi; simp [gsi_r]
      · simp [gsi_r, hpi]; exact h.2 p (by omega))
    S ⟨Fr.rf, fun j hj => absurd hj (Nat.not_lt_zero j)⟩ FU (FU_gt (by omega))
  rw [show (0 : Int32) = nI 0 from rfl, h1]
  obtain ⟨S3, q1, q2, q3⟩ := up_loop (fun n S i => fX3_seeJoinings_28 n S i) nn (fun i S2 => Fr [37] S S2 ∧ ∀ p, p < np → S2.1 37 p = nI (gLd S0.1 cn i p)) (fun S => some ((), S))
    (fun n S2 h => by rw [fX3_seeJoinings_28, at' S2 h.1 14 (by decide) (by decide) (by decide), h14, if_pos (nI_le (Nat.le_refl _) (by omega))])
    (fun n i S2 hin h => by
      obtain ⟨hf, hl⟩ := h
      have ei : (nI i).toNatClampNeg = i := nI_clamp (by omega)
      have e15 := at' S2 hf 15 (by decide) (by decide) (by decide) i
      rw [fX3_seeJoinings_28, at' S2 hf 14 (by decide) (by decide) (by decide), h14, if_neg (nI_ge hin (by omega)), x_counts (b := cn i) (by omega) (by rw [hf.at 47 (by decide)]; exact hc i hin) 7, gbv_s, e15]
      by_cases c : cn i = true ∧ S0.1 15 i = 7
      · have l1 := gLd_lt (f := S0.1) (cn := cn) (np := np) (m := i) (fun j hj2 => hj j (by omega))
        obtain ⟨p1, p2⟩ := hj i hin c.2
        have b1 := l1 _ p1
        have b2 := l1 _ p2
        obtain ⟨w1, w2, w3, w4, w5, w6, w7, w8, w9⟩ := hi i hin
        simp only [c.1, c.2, Bool.true_and, decide_true, gz_t, if_neg i10]
        rw [if_pos (gib_nI (show i < 120 by omega) (by decide)), ei, at' S2 hf 19 (by decide) (by decide) (by decide), at' S2 hf 18 (by decide) (by decide) (by decide), if_pos (gib_ge (w8 c.2).2.2.1 hnp)]
        simp only [glet_s]
        rw [if_pos (gib_ge (w8 c.2).2.2.2 hnp), hl _ p1, hl _ p2]
        rw [nI_max (by omega) (by omega), nI_min (by omega) (by omega)]
        obtain ⟨S4, r1, r2, r3⟩ := x_rename (S := S2) (np := np) (L := gLd S0.1 cn i) (a := max (gLd S0.1 cn i (S0.1 19 i).toNatClampNeg) (gLd S0.1 cn i (S0.1 18 i).toNatClampNeg)) (b := min (gLd S0.1 cn i (S0.1 19 i).toNatClampNeg) (gLd S0.1 cn i (S0.1 18 i).toNatClampNeg)) (by rw [at' S2 hf 5 (by decide) (by decide) (by decide), h5]) hnp (fun p hp => ⟨hl p hp, l1 p hp⟩) (by omega)
        rw [r1, gbd_s, nI_1]
        refine ⟨S4, rfl, (hf.tr r2).mono (by simp), fun p hp => ?_⟩
        rw [r3 p hp, gLd]
        simp only [if_pos c]
      · have : (cn i && decide (S0.1 15 i = 7)) = false := by
          cases hcn : cn i
          · rfl
          · have : ¬ S0.1 15 i = 7 := fun q => c ⟨hcn, q⟩
            simp [this]
        simp only [this, gz_f, if_true, glet_s, nI_1]
        refine ⟨S2, rfl, hf, fun p hp => ?_⟩
        rw [hl p hp, gLd]
        simp only [if_neg c])
    S1 ⟨h2, fun p hp => by rw [h3 p hp]; rfl⟩ FU (FU_gt (by omega))
  exact ⟨S3, q1, q2, q3⟩

/-! the reference: cases in their order; a day -/
section
variable {X : CT} {S S' S1 S2 : GS} {k wo : Int32} {m c : Nat} {o : Nat → Nat}
theorem r67 (hX : X.ok) (hF : MF X S) {d : Nat} (hd : d < X.nk) : S.1 67 d = X.f 9 d := by rw [hF.1 67 (by decide) (by decide)]; exact (hX.D.2.2.2.1.2.2.2.1 d hd).2.1
theorem lat_day {f : Nat → Nat → Int32} {a b : Nat} (h : gLat f b a) : f 9 a ≤ f 9 b := by
  rcases h with h | ⟨h, -⟩
  · exact (fa_of_lt h).1
  · rw [h]; exact (fa_le _ _).mpr (Int.le_refl _)
theorem m_ins (hX : X.ok) (hF : MF X S) (h52 : S.1 54 52 = nI m) (hmc : m ≤ c) (hc : c < X.nk) (hs : ∀ i j, i < j → j < m → gLat X.f (o j) (o i)) (hl : ∀ j, j < m → o j < c) (k201 : GS → Int32 → Int32 → Int32 → Option (Unit × GS)) :
    ∀ i n S1, i ≤ m → i < n → Fr [81] S S1 → (∀ j, j < i → S1.1 81 j = nI (o j)) → (∀ j, i < j → j ≤ m → S1.1 81 j = nI (o (j - 1))) → (∀ j, i ≤ j → j < m → X.f 9 c < X.f 9 (o j)) → ∃ P S', P ≤ m ∧ fX11_knows_240 k201 n S1 k wo (nI c) (nI i) = k201 S' k wo (nI (c + 1)) ∧ Fr [54, 81] S S' ∧ (∀ j, j ≠ 52 → S'.1 54 j = S.1 54 j) ∧ S'.1 54 52 = nI (m + 1) ∧ (∀ j, j ≤ m → S'.1 81 j = nI (if j < P then o j else if j = P then c else o (j - 1))) ∧ (∀ j, j < P → X.f 9 (o j) ≤ X.f 9 c) ∧ ∀ j, P ≤ j → j < m → X.f 9 c < X.f 9 (o j) := by
  have hnk := hX.D.2.2.2.1.2.2.1
  have put : ∀ i S1, i ≤ m → Fr [81] S S1 → (∀ j, j < i → S1.1 81 j = nI (o j)) → (∀ j, i < j → j ≤ m → S1.1 81 j = nI (o (j - 1))) → (∀ j, i ≤ j → j < m → X.f 9 c < X.f 9 (o j)) → (∀ j, j < i → X.f 9 (o j) ≤ X.f 9 c) → ∃ P S', P ≤ m ∧ fX11_knows_290 k201 S1 k wo (nI c) (nI i) = k201 S' k wo (nI (c + 1)) ∧ Fr [54, 81] S S' ∧ (∀ j, j ≠ 52 → S'.1 54 j = S.1 54 j) ∧ S'.1 54 52 = nI (m + 1) ∧ (∀ j, j ≤ m → S'.1 81 j = nI (if j < P then o j else if j = P then c else o (j - 1))) ∧ (∀ j, j < P → X.f 9 (o j) ≤ X.f 9 c) ∧ ∀ j, P ≤ j → j < m → X.f 9 c < X.f 9 (o j) := by
    intro i S1 hi hf h1 h2 h3 h4
    unfold fX11_knows_290
    rw [if_pos (gib_nI (show i < 32 by omega) (by decide)), nI_clamp (show i < 2 ^ 31 by omega)]
    have e52 : (gsi S1 81 i (nI c)).1 54 52 = nI m := by rw [gsi_ne (by decide), hf.at 54 (by decide)]; exact h52
    simp only [glet_s, e52, nI_1]
    refine ⟨i, _, hi, rfl, ((hf.mono (by simp)).put (by simp) _ _).put (by simp) _ _, fun j hj => ?_, by rw [gsi_r, if_pos ⟨rfl, rfl⟩], fun j hj => ?_, h4, h3⟩
    · rw [gsi_r, if_neg (by rintro ⟨-, z⟩; exact hj z), gsi_ne (by decide), hf.at 54 (by decide)]
    · rw [gsi_ne (by decide), gsi_r]
      by_cases z : j = i
      · subst z; rw [if_pos ⟨rfl, rfl⟩, if_neg (by omega), if_pos rfl]
      · rw [if_neg (by rintro ⟨-, w⟩; exact z w)]
        by_cases z2 : j < i
        · rw [if_pos z2]; exact h1 j z2
        · rw [if_neg z2, if_neg z]; exact h2 j (by omega) hj
  intro i
  induction i with
  | zero =>
    intro n S1 hi hn hf h1 h2 h3
    obtain ⟨n, rfl⟩ := Nat.exists_eq_add_of_lt hn
    rw [show 0 + n + 1 = n + 1 by omega, fX11_knows_240, if_pos (show nI 0 ≤ (0 : Int32) by decide)]
    exact put 0 S1 (Nat.zero_le _) hf h1 h2 h3 (fun j hj => absurd hj (Nat.not_lt_zero _))
  | succ i ih =>
    intro n S1 hi hn hf h1 h2 h3
    obtain ⟨n, rfl⟩ := Nat.exists_eq_add_of_lt hn
    have hF1 := hF.fr hf (by simp)
    have ol := hl i (by omega)
    have h0 : ¬ nI (i + 1) ≤ (0 : Int32) := by
      show ¬ nI (i + 1) ≤ nI 0
      exact nI_ge (by omega) (by omega)
    rw [show i + 1 + n + 1 = (i + 1 + n) + 1 from rfl, fX11_knows_240, if_neg h0, nI_m1, if_pos (gib_nI (show i < 32 by omega) (by decide)), nI_clamp (show i < 2 ^ 31 by omega), h1 i (by omega), if_pos (gib_nI (show o i < 32 by omega) (by decide)), nI_clamp (show o i < 2 ^ 31 by omega), if_pos (gib_nI (show c < 32 by omega) (by decide)), nI_clamp (show c < 2 ^ 31 by omega), r67 hX hF1 (show o i < X.nk by omega), r67 hX hF1 hc]
    by_cases cd : X.f 9 (o i) ≤ X.f 9 c
    · rw [if_pos cd]
      refine put (i + 1) S1 hi hf h1 h2 h3 (fun j hj => ?_)
      by_cases z : j = i
      · subst z; exact cd
      · have := lat_day (hs j i (by omega) (by omega))
        rw [fa_le] at this cd ⊢
        omega
    · rw [if_neg cd, if_pos (gib_nI (show i + 1 < 32 by omega) (by decide)), nI_clamp (show i + 1 < 2 ^ 31 by omega)]
      simp only [glet_s, m1_eq, nI_m1]
      refine ih _ _ (by omega) (by omega) (hf.put (by simp) _ _) (fun j hj => ?_) (fun j hj hjm => ?_) (fun j hj hjm => ?_)
      · rw [gsi_r, if_neg (by rintro ⟨-, z⟩; omega)]; exact h1 j (by omega)
      · rw [gsi_r]
        by_cases z : j = i + 1
        · rw [if_pos ⟨rfl, z⟩, z, Nat.add_sub_cancel]
        · rw [if_neg (by rintro ⟨-, w⟩; exact z w)]; exact h2 j (by omega) hjm
      · by_cases z : j = i
        · subst z; exact fa_of_nle cd
        · exact h3 j (by omega) hjm
theorem m_kn201 (hX : X.ok) (hF : MF X S) (h52 : S.1 54 52 = 0) (hsn : X.sn = gSn X.f k wo X.nk) : ∃ (m : Nat) (o : Nat → Nat) (S' : GS), fX11_knows_201 FU S k wo 0 = fX11_knows_316 FU S' 0 ∧ Fr [54, 81, 82] S S' ∧ (∀ j, j ≠ 52 → S'.1 54 j = S.1 54 j) ∧ S'.1 54 52 = nI m ∧ m ≤ X.nk ∧ (∀ i, i < m → S'.1 81 i = nI (o i) ∧ X.sn (o i) = true) ∧ (∀ i j, i < j → j < m → gLat X.f (o j) (o i)) ∧ (∀ d, X.sn d = true → ∃ i, i < m ∧ o i = d) ∧ ∀ d, d < X.nk → S'.1 82 d = -1 := by
  have hnk := hX.D.2.2.2.1.2.2.1
  refine up_any (fun n (S2 : GS) i => fX11_knows_201 n S2 k wo i) X.nk (fun c S2 => ∃ (m : Nat) (o : Nat → Nat), Fr [54, 81, 82] S S2 ∧ (∀ j, j ≠ 52 → S2.1 54 j = S.1 54 j) ∧ S2.1 54 52 = nI m ∧ m ≤ c ∧ (∀ i, i < m → S2.1 81 i = nI (o i) ∧ X.sn (o i) = true ∧ o i < c) ∧ (∀ i j, i < j → j < m → gLat X.f (o j) (o i)) ∧ (∀ d, d < c → X.sn d = true → ∃ i, i < m ∧ o i = d) ∧ ∀ d, d < c → S2.1 82 d = -1) (fun r => ∃ (m : Nat) (o : Nat → Nat) (S' : GS), r = fX11_knows_316 FU S' 0 ∧ Fr [54, 81, 82] S S' ∧ (∀ j, j ≠ 52 → S'.1 54 j = S.1 54 j) ∧ S'.1 54 52 = nI m ∧ m ≤ X.nk ∧ (∀ i, i < m → S'.1 81 i = nI (o i) ∧ X.sn (o i) = true) ∧ (∀ i j, i < j → j < m → gLat X.f (o j) (o i)) ∧ (∀ d, X.sn d = true → ∃ i, i < m ∧ o i = d) ∧ ∀ d, d < X.nk → S'.1 82 d = -1)
    (fun n S2 h => ?_) (fun n c S2 hc h => Or.inr ?_) S ⟨0, fun _ => 0, Fr.rf, fun _ _ => rfl, h52, Nat.le_refl _, fun i hi => absurd hi (Nat.not_lt_zero _), fun i j _ hj => absurd hj (Nat.not_lt_zero _), fun d hd => absurd hd (Nat.not_lt_zero _), fun d hd => absurd hd (Nat.not_lt_zero _)⟩ FU (FU_gt (by omega))
  · obtain ⟨m, o, g1, g2, g3, g4, g5, g6, g7, g8⟩ := h
    show ∃ (m : Nat) (o : Nat → Nat) (S' : GS), fX11_knows_201 (n + 1) S2 k wo (nI X.nk) = _ ∧ _
    rw [fX11_knows_201, g2 35 (by decide), hF.nk hX, if_pos (nI_le (Nat.le_refl _) (by omega)), glet_s]
    exact ⟨m, o, S2, rfl, g1, g2, g3, g4, fun i hi => ⟨(g5 i hi).1, (g5 i hi).2.1⟩, g6, fun d hd => g7 d (hX.sn_lt d hd) hd, g8⟩
  · obtain ⟨m, o, g1, g2, g3, g4, g5, g6, g7, g8⟩ := h
    show ∃ s', fX11_knows_201 (n + 1) S2 k wo (nI c) = fX11_knows_201 n s' k wo (nI (c + 1)) ∧ _
    rw [fX11_knows_201, g2 35 (by decide), hF.nk hX, if_neg (nI_ge hc (by omega)), if_pos (gib_nI (show c < 32 by omega) (by decide)), nI_clamp (show c < 2 ^ 31 by omega), glet_s]
    have q1 : Fr [54, 81, 82] S (gsi S2 82 c (-1)) := g1.put (by simp) _ _
    have q2 : ∀ j, j ≠ 52 → (gsi S2 82 c (-1)).1 54 j = S.1 54 j := fun j hj => by rw [gsi_ne (by decide)]; exact g2 j hj
    have q3 : (gsi S2 82 c (-1)).1 54 52 = nI m := by rw [gsi_ne (by decide)]; exact g3
    have q5 : ∀ i, i < m → (gsi S2 82 c (-1)).1 81 i = nI (o i) := fun i hi => by rw [gsi_ne (by decide)]; exact (g5 i hi).1
    have q8 : ∀ d, d < c + 1 → (gsi S2 82 c (-1)).1 82 d = -1 := fun d hd => by
      rw [gsi_r]
      by_cases z : d = c
      · rw [if_pos ⟨rfl, z⟩]
      · rw [if_neg (by rintro ⟨-, w⟩; exact z w)]; exact g8 d (by omega)
    generalize gsi S2 82 c (-1) = S4 at q1 q2 q3 q5 q8 ⊢
    have hF4 : MF X S4 := ⟨fun k a b => by rw [q1.1 k (by simp; omega)]; exact hF.1 k a b, fun j a => by rw [q2 j (by rintro rfl; cases a)]; exact hF.2 j a⟩
    have wc := hX.D.2.2.2.1.2.2.2.1 c hc
    have skip : X.sn c = false → ∃ s', fX11_knows_201 n S4 k wo (nI (c + 1)) = fX11_knows_201 n s' k wo (nI (c + 1)) ∧ ∃ (m : Nat) (o : Nat → Nat), Fr [54, 81, 82] S s' ∧ (∀ j, j ≠ 52 → s'.1 54 j = S.1 54 j) ∧ s'.1 54 52 = nI m ∧ m ≤ c + 1 ∧ (∀ i, i < m → s'.1 81 i = nI (o i) ∧ X.sn (o i) = true ∧ o i < c + 1) ∧ (∀ i j, i < j → j < m → gLat X.f (o j) (o i)) ∧ (∀ d, d < c + 1 → X.sn d = true → ∃ i, i < m ∧ o i = d) ∧ ∀ d, d < c + 1 → s'.1 82 d = -1 := by
      intro hz
      refine ⟨S4, rfl, m, o, q1, q2, q3, by omega, fun i hi => ⟨q5 i hi, (g5 i hi).2.1, by have := (g5 i hi).2.2; omega⟩, g6, fun d hd hsd => ?_, q8⟩
      have : d ≠ c := fun w => by rw [w, hz] at hsd; cases hsd
      exact g7 d (by omega) hsd
    have snc : X.sn c = (!decide (nI c = wo) && !decide (k < X.f 12 c)) := by rw [hsn]; unfold gSn; simp [hc]
    simp only [glet_s, nI_1]
    by_cases c1 : nI c = wo
    · rw [if_pos c1]; exact skip (by rw [snc, decide_eq_true c1]; rfl)
    · rw [if_neg c1, hF4.1 70 (by decide) (by decide), wc.2.2.2.2.1]
      by_cases c2 : X.f 12 c ≤ k
      · rw [if_pos c2, q3]
        have hsc : X.sn c = true := by rw [snc, decide_eq_false c1, decide_eq_false (fun z => (fa_of_lt z).2.1 c2)]; rfl
        obtain ⟨P, S', p0, p1, p2, p3, p4, p5, p6, p7⟩ := m_ins (k := k) (wo := wo) hX hF4 q3 g4 hc g6 (fun j hj => (g5 j hj).2.2) (fX11_knows_201 n) m FU S4 (Nat.le_refl _) (FU_gt (by omega)) Fr.rf q5 (fun j a b => by omega) (fun j a b => by omega)
        refine ⟨S', p1, m + 1, fun j => if j < P then o j else if j = P then c else o (j - 1), (q1.tr p2).mono (by simp), fun j hj => by rw [p3 j hj]; exact q2 j hj, p4, by omega, fun i hi => ⟨p5 i (by omega), ?_⟩, fun i j hij hj => ?_, fun d hd hsd => ?_, fun d hd => by rw [p2.at 82 (by decide)]; exact q8 d hd⟩
        · dsimp only
          by_cases z1 : i < P
          · rw [if_pos z1]
            have := g5 i (by omega)
            exact ⟨this.2.1, by omega⟩
          · rw [if_neg z1]
            by_cases z2 : i = P
            · rw [if_pos z2]; exact ⟨hsc, by omega⟩
            · rw [if_neg z2]
              have := g5 (i - 1) (by omega)
              exact ⟨this.2.1, by omega⟩
        · dsimp only
          by_cases z1 : j < P
          · rw [if_pos z1, if_pos (show i < P by omega)]; exact g6 i j hij (by omega)
          · rw [if_neg z1]
            by_cases z2 : j = P
            · rw [if_pos z2, if_pos (show i < P by omega)]
              have hd := p6 i (by omega)
              have hlt := (g5 i (by omega)).2.2
              by_cases z3 : X.f 9 (o i) = X.f 9 c
              · exact Or.inr ⟨z3, hlt⟩
              · exact Or.inl (fa_le_ne hd z3)
            · rw [if_neg z2]
              by_cases z3 : i < P
              · rw [if_pos z3]; exact g6 i (j - 1) (by omega) (by omega)
              · rw [if_neg z3]
                by_cases z4 : i = P
                · rw [if_pos z4]; exact Or.inl (p7 (j - 1) (by omega) (by omega))
                · rw [if_neg z4]; exact g6 (i - 1) (j - 1) (by omega) (by omega)
        · by_cases z : d = c
          · exact ⟨P, by omega, by simp [z]⟩
          · obtain ⟨i, i1, i2⟩ := g7 d (by omega) hsd
            by_cases z1 : i < P
            · exact ⟨i, by omega, by simp [z1, i2]⟩
            · have a1 : ¬ i + 1 < P := by omega
              have a2 : ¬ i + 1 = P := by omega
              exact ⟨i + 1, by omega, by simp [a1, a2, i2]⟩
      · rw [if_neg c2]; exact skip (by rw [snc, decide_eq_true (fa_of_nle c2)]; simp)
theorem m_kn316 (h52 : S.1 54 52 = nI m) (hm : m ≤ 32) (h81 : ∀ i, i < m → S.1 81 i = nI (o i) ∧ o i < 32) (hinj : ∀ i j, i < m → j < m → o i = o j → i = j) : ∃ S', fX11_knows_316 FU S 0 = fX11_knows_344 FU S' 0 ∧ Fr [82] S S' ∧ (∀ j, j < m → S'.1 82 (o j) = nI j) ∧ ∀ d, (∀ j, j < m → o j ≠ d) → S'.1 82 d = S.1 82 d := by
  obtain ⟨S', a1, a2⟩ := up_loop (fun n S i => fX11_knows_316 n S i) m (fun i S2 => Fr [82] S S2 ∧ (∀ j, j < i → S2.1 82 (o j) = nI j) ∧ ∀ d, (∀ j, j < m → o j ≠ d) → S2.1 82 d = S.1 82 d) (fun S => fX11_knows_344 FU S 0)
    (fun n S2 h => by rw [fX11_knows_316, h.1.at 54 (by decide), h52, if_pos (nI_le (Nat.le_refl _) (by omega)), glet_s])
    (fun n i S2 hi h => by
      rw [fX11_knows_316, h.1.at 54 (by decide), h52, if_neg (nI_ge hi (by omega)), if_pos (gib_nI (show i < 32 by omega) (by decide)), nI_clamp (show i < 2 ^ 31 by omega), h.1.at 81 (by decide), (h81 i hi).1]
      have := (h81 i hi).2
      rw [if_pos (gib_nI this (by decide)), nI_clamp (show o i < 2 ^ 31 by omega)]
      simp only [glet_s, nI_1]
      refine ⟨_, rfl, h.1.put (by simp) _ _, fun j hj => ?_, fun d hd => ?_⟩
      · rw [gsi_r]
        by_cases z : o j = o i
        · rw [if_pos ⟨rfl, z⟩, hinj j i (by omega) hi z]
        · rw [if_neg (by rintro ⟨-, w⟩; exact z w)]
          have : j ≠ i := fun w => z (by rw [w])
          exact h.2.1 j (by omega)
      · rw [gsi_r, if_neg (by rintro ⟨-, w⟩; exact hd i hi w.symm)]; exact h.2.2 d hd)
    S ⟨Fr.rf, fun j hj => absurd hj (Nat.not_lt_zero _), fun d _ => rfl⟩ FU (FU_gt (by omega))
  exact ⟨S', a1, a2⟩
/-- what the reference's asking leaves alone -/
def Rn (S S' : GS) : Prop := (∀ c, c < 54 ∨ (55 ≤ c ∧ c ≤ 76) ∨ 86 ≤ c → S'.1 c = S.1 c) ∧ (∀ j, j ≠ 28 → j ≠ 52 → j ≠ 58 → j ≠ 59 → j ≠ 60 → S'.1 54 j = S.1 54 j) ∧ S'.2.2 = S.2.2
theorem Rn.rf : Rn S S := ⟨fun _ _ => rfl, fun _ _ _ _ _ _ => rfl, rfl⟩
theorem Rn.tr (h : Rn S S1) (h2 : Rn S1 S2) : Rn S S2 := ⟨fun k a => (h2.1 k a).trans (h.1 k a), fun j a b c d e => (h2.2.1 j a b c d e).trans (h.2.1 j a b c d e), h2.2.2.trans h.2.2⟩
theorem Rk.rn (h : Rk S S1) : Rn S S1 := ⟨fun k a => h.1 k (by omega) (by omega) (by omega) (by omega), fun j a _ _ _ _ => h.2.1 j a, h.2.2⟩
theorem Fr.rn {C : List Nat} (h : Fr C S S1) (hC : ∀ c, c ∈ C → 77 ≤ c ∧ c ≤ 85) : Rn S S1 := ⟨fun k a => h.1 k (fun z => by have := hC k z; omega), fun j _ _ _ _ _ => by rw [h.1 54 (fun z => by have := hC 54 z; omega)], by rw [h.2]⟩
theorem MF.rn (h : MF X S) (q : Rn S S') : MF X S' := ⟨fun k a b => by rw [q.1 k (by omega)]; exact h.1 k a b, fun j a => by rw [q.2.1 j (by rintro rfl; cases a) (by rintro rfl; cases a) (by rintro rfl; cases a) (by rintro rfl; cases a) (by rintro rfl; cases a)]; exact h.2 j a⟩
theorem IV_rn (h : IV S) (e : Rn S S') : IV S' := by
  refine IV_scr h (fun k j hi => ?_) (by rw [e.2.2]) (by rw [e.2.2])
  by_cases z : k = 54
  · subst z
    exact e.2.1 j (by rintro rfl; cases hi) (by rintro rfl; cases hi) (by rintro rfl; cases hi) (by rintro rfl; cases hi) (by rintro rfl; cases hi)
  · rw [e.1 k]
    simp only [irel, Bool.or_eq_true, Bool.and_eq_true, decide_eq_true_eq, beq_iff_eq] at hi
    omega
theorem m_knows (hX : X.ok) (hR : X.mx) (hF : MF X S) (hcn : X.cn = gCn X.f k wo X.nn) (hld : X.ld = gLd X.f X.cn X.nn) (hsn : X.sn = gSn X.f k wo X.nk) (hwo : wo = -1 ∨ gib wo X.nk = true) : ∃ (S' : GS) (o : Nat → Nat) (m : Nat), fX11_knows S k wo = some ((), S') ∧ Rn S S' ∧ MD X o m S' := by
  have hnk := hX.D.2.2.2.1.2.2.1
  obtain ⟨S1, a1, a2, a3⟩ := m_knA (k := k) (wo := wo) hX hF
  have r1 := a2.rn (by simp)
  obtain ⟨S2, b1, b2, b3⟩ := m_knB (k := k) (wo := wo) hX (hF.rn r1) a3
  have r2 := r1.tr (b2.rn (by simp))
  obtain ⟨S3, c1, c2, c3⟩ := m_knC (k := k) (wo := wo) hX (hF.rn r2) b3 hwo
  have r3 := r2.tr (c2.rn (by simp))
  rw [a1, b1, c1]
  obtain ⟨S4, d1, d2, d3⟩ := m_joins hX (hF.rn r3) (fun j hj => by rw [c3 j hj, hcn]) hld
  have r4 := r3.tr (d2.rn (by simp))
  rw [d1, gbd_s, glet_s, glet_s]
  have r5 : Rn S4 (gsi S4 54 52 0) := ⟨fun c hc => by rw [gsi_ne (by omega)], fun j _ hj _ _ _ => by rw [gsi_r, if_neg (by rintro ⟨-, z⟩; exact hj z)], rfl⟩
  have q5 : ∀ c, c ≠ 54 → (gsi S4 54 52 0).1 c = S4.1 c := fun c hc => gsi_ne hc
  have z52 : (gsi S4 54 52 0).1 54 52 = 0 := by simp [gsi_r]
  generalize gsi S4 54 52 0 = S5 at r5 q5 z52 ⊢
  have r5' := r4.tr r5
  obtain ⟨m, o, S6, e1, e2, e3, e4, e5, e6, e7, e8, e9⟩ := m_kn201 (k := k) (wo := wo) hX (hF.rn r5') z52 hsn
  have r6 : Rn S S6 := r5'.tr ⟨fun c hc => e2.1 c (by simp; omega), fun j _ hj _ _ _ => e3 j hj, by rw [e2.2]⟩
  have inj : ∀ i j, i < m → j < m → o i = o j → i = j := by
    intro i j hi hj q
    rcases Nat.lt_or_ge i j with z | z
    · have := e7 i j z hj
      rw [q] at this
      exact absurd this (lat_asym this)
    · rcases Nat.lt_or_ge j i with z2 | z2
      · have := e7 j i z2 hi
        rw [q] at this
        exact absurd this (lat_asym this)
      · omega
  obtain ⟨S7, f1, f2, f3, f4⟩ := m_kn316 e4 (by omega) (fun i hi => ⟨(e6 i hi).1, by have := hX.sn_lt _ (e6 i hi).2; omega⟩) inj
  have r7 := r6.tr (f2.rn (by simp))
  rw [e1, f1]
  have hM7 : MT X S7 := by
    unfold MT at d3 ⊢
    rw [f2.1 78 (by decide), f2.1 79 (by decide), f2.1 80 (by decide), e2.1 78 (by decide), e2.1 79 (by decide), e2.1 80 (by decide), q5 78 (by decide), q5 79 (by decide), q5 80 (by decide)]
    exact d3
  have hO7 : MO X o m S7 := ⟨by omega, fun i hi => ⟨by rw [f2.at 81 (by decide)]; exact (e6 i hi).1, (e6 i hi).2, f3 i hi⟩, e7, e8⟩
  obtain ⟨S8, g1, g2, g3⟩ := m_kn344 hX hR (hF.rn r7) hM7 hO7 (by rw [f2.at 54 (by decide)]; exact e4) (fun c hc hs => by
    rw [f4 c (fun j hj z => by have := (e6 j hj).2; rw [z, hs] at this; cases this)]
    exact e9 c hc)
  exact ⟨S8, o, m, g1, r7.tr g2.rn, g3⟩
/-- the reference's world, known and at a day -/
def MA (X : CT) (o : Nat → Nat) (m e : Nat) (day : Int32) (S : GS) : Prop := MD X o m S ∧ e ≤ m ∧ S.1 54 58 = nI e ∧ S.1 54 59 = day ∧ (∀ d, X.Td day d = true ↔ ∃ i, i < e ∧ o i = d) ∧ MW X (X.Td day) e S
theorem MD.cg (h : MD X o m S) (hF : MF X S') (e1 : ∀ c, 78 ≤ c → c ≤ 84 → S'.1 c = S.1 c) (e2 : S'.1 54 52 = S.1 54 52) : MD X o m S' := by
  obtain ⟨h1, h2, h3, h4, h5, h6⟩ := h
  refine ⟨hF, ?_, h3.cg (e1 81 (by decide) (by decide)) (e1 82 (by decide) (by decide)), e2.trans h4, fun c a b => by rw [e1 82 (by decide) (by decide)]; exact h5 c a b, fun j hj => by rw [e1 83 (by decide) (by decide), e1 84 (by decide) (by decide)]; exact h6 j hj⟩
  unfold MT at h2 ⊢
  rw [e1 78 (by decide) (by decide), e1 79 (by decide) (by decide), e1 80 (by decide) (by decide)]
  exact h2
theorem m_asOf (hX : X.ok) (hD : MD X o m S) {day : Int32} : ∃ S' e, fX11_asOf S day = some ((), S') ∧ Rn S S' ∧ MA X o m e day S' := by
  have hm := hD.2.2.1.1
  unfold fX11_asOf
  rw [glet_s, glet_s]
  have run : ∃ e S', fX11_asOf_10 FU (gsi (gsi S 54 59 day) 54 58 0) day = fX11_asOf_52 S' ∧ (∀ c, c ≠ 54 → S'.1 c = S.1 c) ∧ (∀ j, j ≠ 58 → j ≠ 59 → S'.1 54 j = S.1 54 j) ∧ S'.2 = S.2 ∧ S'.1 54 59 = day ∧ S'.1 54 58 = nI e ∧ e ≤ m ∧ (∀ i, i < e → X.f 9 (o i) ≤ day) ∧ ∀ i, e ≤ i → i < m → day < X.f 9 (o i) := by
    refine up_any (fun n (S2 : GS) i => fX11_asOf_10 n (gsi S2 54 58 i) day) m (fun i S2 => (∀ c, c ≠ 54 → S2.1 c = S.1 c) ∧ (∀ j, j ≠ 58 → j ≠ 59 → S2.1 54 j = S.1 54 j) ∧ S2.2 = S.2 ∧ S2.1 54 59 = day ∧ ∀ j, j < i → X.f 9 (o j) ≤ day) (fun r => ∃ e S', r = fX11_asOf_52 S' ∧ (∀ c, c ≠ 54 → S'.1 c = S.1 c) ∧ (∀ j, j ≠ 58 → j ≠ 59 → S'.1 54 j = S.1 54 j) ∧ S'.2 = S.2 ∧ S'.1 54 59 = day ∧ S'.1 54 58 = nI e ∧ e ≤ m ∧ (∀ i, i < e → X.f 9 (o i) ≤ day) ∧ ∀ i, e ≤ i → i < m → day < X.f 9 (o i))
      (fun n S2 h => ?_) (fun n i S2 hi h => ?_) (gsi S 54 59 day) ⟨fun c hc => gsi_ne hc, fun j _ h9 => by rw [gsi_r, if_neg (by rintro ⟨-, z⟩; exact h9 z)], rfl, by simp [gsi_r], fun j hj => absurd hj (Nat.not_lt_zero _)⟩ FU (FU_gt (by omega))
    · show ∃ e S', fX11_asOf_10 (n + 1) (gsi S2 54 58 (nI m)) day = _ ∧ _
      obtain ⟨h1, h2, h3, h4, h5⟩ := h
      have e58 : (gsi S2 54 58 (nI m)).1 54 58 = nI m := by simp [gsi_r]
      have e52 : (gsi S2 54 58 (nI m)).1 54 52 = nI m := by rw [gsi_r, if_neg (by decide), h2 52 (by decide) (by decide)]; exact hD.2.2.2.1
      rw [fX11_asOf_10, e58, e52, if_pos (nI_le (Nat.le_refl _) (by omega))]
      exact ⟨m, _, rfl, fun c hc => by rw [gsi_ne hc]; exact h1 c hc, fun j a b => by rw [gsi_r, if_neg (by rintro ⟨-, z⟩; exact a z)]; exact h2 j a b, h3, by rw [gsi_r, if_neg (by decide)]; exact h4, e58, Nat.le_refl _, h5, fun i a b => by omega⟩
    · show (∃ e S', fX11_asOf_10 (n + 1) (gsi S2 54 58 (nI i)) day = _ ∧ _) ∨ ∃ s', fX11_asOf_10 (n + 1) (gsi S2 54 58 (nI i)) day = fX11_asOf_10 n (gsi s' 54 58 (nI (i + 1))) day ∧ _
      obtain ⟨h1, h2, h3, h4, h5⟩ := h
      have ol := hD.2.2.1.lt hX hi
      have hnk := hX.D.2.2.2.1.2.2.1
      have e58 : (gsi S2 54 58 (nI i)).1 54 58 = nI i := by simp [gsi_r]
      have e52 : (gsi S2 54 58 (nI i)).1 54 52 = nI m := by rw [gsi_r, if_neg (by decide), h2 52 (by decide) (by decide)]; exact hD.2.2.2.1
      have e81 : (gsi S2 54 58 (nI i)).1 81 i = nI (o i) := by rw [gsi_ne (by decide), h1 81 (by decide)]; exact (hD.2.2.1.2.1 i hi).1
      have e67 : (gsi S2 54 58 (nI i)).1 67 (o i) = X.f 9 (o i) := by rw [gsi_ne (by decide), h1 67 (by decide)]; exact r67 hX hD.1 ol
      rw [fX11_asOf_10, e58, e52, if_neg (nI_ge hi (by omega)), if_pos (gib_nI (show i < 32 by omega) (by decide)), nI_clamp (show i < 2 ^ 31 by omega), e81, if_pos (gib_nI (show o i < 32 by omega) (by decide)), nI_clamp (show o i < 2 ^ 31 by omega), e67]
      by_cases cd : day < X.f 9 (o i)
      · rw [if_pos cd]
        left
        refine ⟨i, _, rfl, fun c hc => by rw [gsi_ne hc]; exact h1 c hc, fun j a b => by rw [gsi_r, if_neg (by rintro ⟨-, z⟩; exact a z)]; exact h2 j a b, h3, by rw [gsi_r, if_neg (by decide)]; exact h4, e58, by omega, h5, fun j a b => ?_⟩
        by_cases z : j = i
        · subst z; exact cd
        · have := lat_day (hD.2.2.1.2.2.1 i j (by omega) b)
          rw [fa_le] at this
          rw [fa_lt] at cd ⊢
          omega
      · rw [if_neg cd, glet_s, nI_1]
        right
        refine ⟨gsi S2 54 58 (nI i), rfl, fun c hc => by rw [gsi_ne hc]; exact h1 c hc, fun j a b => by rw [gsi_r, if_neg (by rintro ⟨-, z⟩; exact a z)]; exact h2 j a b, h3, by rw [gsi_r, if_neg (by decide)]; exact h4, fun j hj => ?_⟩
        by_cases z : j = i
        · subst z; exact fa_of_nlt cd
        · exact h5 j (by omega)
  obtain ⟨e, S1, a1, a2, a3, a4, a5, a6, a7, a8, a9⟩ := run
  rw [a1]
  have rn1 : Rn S S1 := ⟨fun c hc => a2 c (by omega), fun j _ _ h8 h9 _ => a3 j h8 h9, by rw [a4]⟩
  have hF1 := hD.1.rn rn1
  have hD1 : MD X o m S1 := hD.cg hF1 (fun c _ _ => a2 c (by omega)) (a3 52 (by decide) (by decide))
  have hT : ∀ d, X.Td day d = true ↔ ∃ i, i < e ∧ o i = d := by
    intro d
    unfold CT.Td
    simp only [Bool.and_eq_true, decide_eq_true_eq]
    constructor
    · rintro ⟨q1, q2⟩
      obtain ⟨i, i1, i2⟩ := hD.2.2.1.2.2.2 d q1
      refine ⟨i, ?_, i2⟩
      rcases Nat.lt_or_ge i e with z | z
      · exact z
      · have := a9 i z i1
        rw [i2] at this
        exact absurd q2 (fa_of_lt this).2.1
    · rintro ⟨i, i1, i2⟩
      rw [← i2]
      exact ⟨(hD.2.2.1.2.1 i (by omega)).2.1, a8 i i1⟩
  unfold fX11_asOf_52
  rw [a6]
  obtain ⟨S2, b1, b2, b3⟩ := m_undoes hX hF1 hD1.2.1 hD1.2.2.1 a7 hT
  rw [b1, gbd_s]
  have hF2 := hF1.fr b2 (by simp)
  have hD2 : MD X o m S2 := hD1.cg hF2 (fun c h1 h2 => b2.1 c (by simp; omega)) (by rw [b2.at 54 (by decide)])
  exact ⟨S2, e, rfl, rn1.tr (b2.rn (by simp)), hD2, a7, by rw [b2.at 54 (by decide)]; exact a6, by rw [b2.at 54 (by decide)]; exact a5, hT, hD2.2.2.1.mw hX a7 hT b3⟩
end

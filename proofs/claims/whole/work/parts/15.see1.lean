/-! loops that go up or down; what is known on a day: cases, notes, joinings (the class) -/
theorem up_loop {β : Type} (F : Nat → GS → Int32 → Option β) (N : Nat) (I : Nat → GS → Prop) (K : GS → Option β)
    (hx : ∀ n S, I N S → F (n + 1) S (nI N) = K S) (hs : ∀ n i S, i < N → I i S → ∃ S', F (n + 1) S (nI i) = F n S' (nI (i + 1)) ∧ I (i + 1) S') :
    ∀ S, I 0 S → ∀ n, N < n → ∃ S', F n S (nI 0) = K S' ∧ I N S' := by
  have key : ∀ r i S, i + r = N → I i S → ∀ n, r < n → ∃ S', F n S (nI i) = K S' ∧ I N S' := by
    intro r
    induction r with
    | zero =>
      intro i S hi h n hn
      obtain ⟨n, rfl⟩ := Nat.exists_eq_add_of_lt hn
      have : i = N := by omega
      subst this
      exact ⟨S, by rw [show 0 + n + 1 = n + 1 by omega]; exact hx n S h, h⟩
    | succ r ih =>
      intro i S hi h n hn
      obtain ⟨n, rfl⟩ := Nat.exists_eq_add_of_lt hn
      obtain ⟨S', h1, h2⟩ := hs (r + 1 + n) i S (by omega) h
      obtain ⟨S2, h3, h4⟩ := ih (i + 1) S' (by omega) h2 (r + 1 + n) (by omega)
      exact ⟨S2, by rw [← h3, ← h1], h4⟩
  exact fun S h n hn => key N 0 S (by omega) h n hn
/-- going down: from N - 1 to 0, ends at -1 -/
theorem down_loop {β : Type} (F : Nat → GS → Int32 → Option β) (I : Nat → GS → Prop) (K : GS → Option β)
    (hx : ∀ n S, I 0 S → F (n + 1) S (-1) = K S) (hs : ∀ n i S, I (i + 1) S → ∃ S', F (n + 1) S (nI i) = F n S' (nI i - 1) ∧ I i S') :
    ∀ N S, I N S → ∀ n, N < n → ∃ S', F n S (nI N - 1) = K S' ∧ I 0 S' := by
  intro N
  induction N with
  | zero =>
    intro S h n hn
    obtain ⟨n, rfl⟩ := Nat.exists_eq_add_of_lt hn
    exact ⟨S, by rw [show 0 + n + 1 = n + 1 by omega, show nI 0 - 1 = (-1 : Int32) by decide]; exact hx n S h, h⟩
  | succ N ih =>
    intro S h n hn
    obtain ⟨n, rfl⟩ := Nat.exists_eq_add_of_lt hn
    obtain ⟨S', h1, h2⟩ := hs (N + 1 + n) N S h
    obtain ⟨S2, h3, h4⟩ := ih S' h2 (N + 1 + n) (by omega)
    exact ⟨S2, by rw [← h3, ← h1, nI_m1], h4⟩
theorem m1_eq (x : Int32) : x + (-1 : Int32) = x - 1 := by
  apply Int32.toBitVec_inj.mp
  simp only [Int32.toBitVec_add, Int32.toBitVec_sub]
  rw [BitVec.sub_eq_add_neg]
  rfl
/-- but these cells, nothing has changed -/
def Fr (C : List Nat) (S0 S : GS) : Prop := (∀ k, k ∉ C → S.1 k = S0.1 k) ∧ S.2 = S0.2
theorem Fr.rf {C : List Nat} {S : GS} : Fr C S S := ⟨fun _ _ => rfl, rfl⟩
theorem Fr.tr {C D : List Nat} {S0 S1 S2 : GS} (h : Fr C S0 S1) (h2 : Fr D S1 S2) : Fr (C ++ D) S0 S2 :=
  ⟨fun k hk => (h2.1 k (fun q => hk (List.mem_append_right _ q))).trans (h.1 k (fun q => hk (List.mem_append_left _ q))), h2.2.trans h.2⟩
theorem Fr.mono {C D : List Nat} {S0 S : GS} (h : Fr C S0 S) (hs : ∀ k, k ∈ C → k ∈ D) : Fr D S0 S := ⟨fun k hk => h.1 k (fun q => hk (hs k q)), h.2⟩
theorem Fr.put {C : List Nat} {S0 S : GS} (h : Fr C S0 S) {k : Nat} (hk : k ∈ C) (j : Nat) (x : Int32) : Fr C S0 (gsi S k j x) := by
  refine ⟨fun a ha => ?_, h.2⟩
  have : a ≠ k := fun q => ha (q ▸ hk)
  rw [gsi_ne this]
  exact h.1 a ha
theorem Fr.at {C : List Nat} {S0 S : GS} (h : Fr C S0 S) (k : Nat) (hk : k ∉ C) (j : Nat) : S.1 k j = S0.1 k j := by rw [h.1 k hk]
theorem x_fill {S : GS} {a : Nat} (ha : gk a = 12) (hn : gn a < 5000) (x : Int32) : ∃ S', fJ7_fill_53178 S a x = some ((), S') ∧ Fr [a] S S' ∧ ∀ i, i < gn a → S'.1 a i = x := by
  unfold fJ7_fill_53178
  simp only [glet_s]
  rw [if_pos (by omega)]
  obtain ⟨S', h1, h2, h3⟩ := up_loop (fun n S i => fJ7_fill_53178_5 n S a x i (Int32.ofNat (gn a))) (gn a) (fun i S2 => Fr [a] S S2 ∧ ∀ j, j < i → S2.1 a j = x) (fun S => some ((), S))
    (fun n S2 h => by
      rw [fJ7_fill_53178_5, if_pos (show Int32.ofNat (gn a) ≤ nI (gn a) from nI_le (Nat.le_refl _) (by omega))])
    (fun n i S2 hi h => by
      refine ⟨gsi S2 a i x, ?_, h.1.put (by simp) _ _, fun j hj => ?_⟩
      · rw [fJ7_fill_53178_5, if_neg (show ¬ Int32.ofNat (gn a) ≤ nI i from nI_ge hi (by omega)), if_pos ha, if_pos (gib_nI hi (by omega))]
        simp only [glet_s, nI_clamp (show i < 2 ^ 31 by omega), nI_1]
      · by_cases hji : j = i
        · subst hji; simp [gsi_r]
        · simp [gsi_r, hji]; exact h.2 j (by omega))
    S ⟨Fr.rf, fun j hj => absurd hj (Nat.not_lt_zero j)⟩ FU (FU_gt hn)
  exact ⟨S', h1, h2, h3⟩
/-- seen: the cases that are known, but one -/
def gSn (f : Nat → Nat → Int32) (k wo : Int32) (nk c : Nat) : Bool := decide (c < nk) && !decide (nI c = wo) && !decide (k < f 12 c)
theorem x_seeCases {S : GS} {nk : Nat} (h7 : S.1 7 0 = nI nk) (hnk : nk ≤ 32) (k wo : Int32) : ∃ S', fX3_seeCases S k wo = some ((), S') ∧ Fr [36] S S' ∧ S'.1 36 14 = S.1 36 14 ∧ ∀ c, c < 32 → bt (S'.1 36 3) c = gSn S.1 k wo nk c := by
  unfold fX3_seeCases
  simp only [glet_s]
  obtain ⟨S', h1, h2, h3, h4⟩ := up_loop (fun n S i => fX3_seeCases_7 n S k wo i) nk (fun i S2 => Fr [36] S S2 ∧ S2.1 36 14 = S.1 36 14 ∧ ∀ c, c < 32 → bt (S2.1 36 3) c = (decide (c < i) && gSn S.1 k wo nk c)) (fun S => some ((), S))
    (fun n S2 h => by
      rw [fX3_seeCases_7, h.1.at 7 (by decide), h7, if_pos (nI_le (Nat.le_refl _) (by omega))])
    (fun n i S2 hi h => by
      obtain ⟨hF, h14, hb⟩ := h
      have keep : (gSn S.1 k wo nk i = false) → ∀ c, c < 32 → bt (S2.1 36 3) c = (decide (c < i + 1) && gSn S.1 k wo nk c) := by
        intro hz c hc
        rw [hb c hc]
        by_cases hci : c = i
        · subst hci; simp [hz]
        · have : (c < i + 1) = (c < i) := by apply propext; omega
          simp only [this]
      rw [fX3_seeCases_7, hF.at 7 (by decide), h7, if_neg (nI_ge hi (by omega))]
      by_cases c1 : nI i = wo
      · rw [if_pos c1]
        exact ⟨S2, by simp only [glet_s, nI_1], hF, h14, keep (by simp [gSn, c1])⟩
      · rw [if_neg c1, if_pos (gib_nI (show i < 32 by omega) (by decide)), nI_clamp (by omega), hF.at 12 (by decide)]
        by_cases c2 : k < S.1 12 i
        · rw [if_pos c2]
          exact ⟨S2, by simp only [glet_s, nI_1], hF, h14, keep (by simp [gSn, c2])⟩
        · rw [if_neg c2]
          refine ⟨gsi S2 36 3 (S2.1 36 3 ||| (1 : Int32) <<< (nI i &&& 31)), by simp only [glet_s, nI_1], hF.put (by simp) _ _, by simpa [gsi_r] using h14, fun c hc => ?_⟩
          have : (gsi S2 36 3 (S2.1 36 3 ||| (1 : Int32) <<< (nI i &&& 31))).1 36 3 = S2.1 36 3 ||| (1 : Int32) <<< (nI i &&& 31) := by simp [gsi_r]
          rw [this, b_or, b_one (show i < 32 by omega) hc, hb c hc]
          by_cases hci : c = i
          · subst hci; simp [gSn, c1, c2, hi]
          · have : (c < i + 1) = (c < i) := by apply propext; omega
            simp [this, hci])
    (gsi S 36 3 0) ⟨Fr.rf.put (by simp) _ _, by simp [gsi_r], fun c hc => by simp [gsi_r, b_0]⟩ FU (FU_gt (by omega))
  refine ⟨S', h1, h2, h3, fun c hc => ?_⟩
  rw [h4 c hc]
  by_cases hcn : c < nk
  · simp [hcn]
  · simp [hcn, gSn]
theorem x_sees {S : GS} {c : Nat} (hc : c < 32) : fX3_sees S (nI c) = some (gz (bt (S.1 36 3) c)) := by
  unfold fX3_sees
  rw [x_has _ hc, gbv_s, if_pos (gzb _)]
/-- the notes that are struck, the last d of nn looked at -/
def gStr (f : Nat → Nat → Int32) (k : Int32) (nn : Nat) : Nat → Nat → Bool
  | 0 => fun _ => false
  | d + 1 => fun j => gStr f k nn d j || (decide (f 16 (nn - (d + 1)) ≤ k) && !(gStr f k nn d (nn - (d + 1))) && decide (f 15 (nn - (d + 1)) = 8) && decide (j = (f 18 (nn - (d + 1))).toNatClampNeg))
/-- a note of the case that is left out -/
def gOf (f : Nat → Nat → Int32) (wo : Int32) (n : Nat) : Bool := (decide (f 15 n ≤ 4) && decide (f 17 n = wo)) || (decide (1 < f 15 n) && decide (f 15 n ≤ 4) && decide (f 18 n = wo))
/-- the notes that count -/
def gCn (f : Nat → Nat → Int32) (k wo : Int32) (nn n : Nat) : Bool := decide (f 16 n ≤ k) && !(gStr f k nn nn n) && !(gOf f wo n)
theorem x_ofSeen {S S0 : GS} {td np nk nn n : Nat} {k wo : Int32} (hnk : nk ≤ 32) (hn : n < nn) (hnn : nn ≤ 120) (hi : IVn1 S0.1 td np nk n) (hF : Fr [36, 47] S0 S) (hb : ∀ c, c < 32 → bt (S.1 36 3) c = gSn S0.1 k wo nk c) (ht : ¬ k < S0.1 16 n) :
    fX3_isOfSeenCases S (nI n) = some (gz (!(gOf S0.1 wo n))) := by
  obtain ⟨w1, w2, w3, w4, w5, w6, -⟩ := hi
  have e1 : (nI n).toNatClampNeg = n := nI_clamp (by omega)
  unfold fX3_isOfSeenCases
  rw [if_pos (gib_nI (show n < 120 by omega) (by decide)), e1, hF.at 15 (by decide), hF.at 17 (by decide), hF.at 18 (by decide)]
  simp only [glet_s]
  have sees : ∀ x : Int32, gib x nk = true → S0.1 12 x.toNatClampNeg ≤ S0.1 16 n → fX3_sees S x = some (gz (!decide (x = wo))) := by
    intro x hx hle
    obtain ⟨c, hc, rfl⟩ := gib_ex hx (by omega)
    rw [nI_clamp (by omega)] at hle
    rw [x_sees (by omega), hb c (by omega)]
    have : ¬ k < S0.1 12 c := fun q => ht (fa_trans q hle)
    simp [gSn, hc, this]
  by_cases c1 : S0.1 15 n ≤ 4
  · rw [if_pos c1]
    by_cases c2 : S0.1 15 n ≤ 1
    · have v := w5 c2
      have c3 : ¬ (1 : Int32) < S0.1 15 n := fun q => (fa_of_lt q).2.1 c2
      rw [sees _ v.2.2.2.2.1 v.2.2.2.2.2.2.2.2, gbv_s]
      by_cases c4 : S0.1 17 n = wo
      · simp [gz, c4, gOf, c1]
      · simp [gz, c4, gOf, c2, c3]
    · have c3 : (1 : Int32) < S0.1 15 n := fa_of_nle c2
      have v := w6 c3 c1
      rw [sees _ v.2.2.1 v.2.2.2.2.2.1, sees _ v.2.2.2.1 v.2.2.2.2.2.2.1, gbv_s]
      simp only [gbv_s]
      by_cases c4 : S0.1 17 n = wo
      · simp [gz, c4, gOf, c1]
      · by_cases c5 : S0.1 18 n = wo
        · simp [gz, c4, c5, gOf, c1, c2, c3]
        · simp [gz, c4, c5, gOf, c2]
  · rw [if_neg c1]
    simp [gz, gOf, c1]

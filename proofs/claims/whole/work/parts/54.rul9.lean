/-! the call rules -/
theorem x_clear {S : GS} {s : Nat} (hs : s = 21 ∨ s = 26) : fX7_clear S s = some ((), gsi (gsi (gsi (gsi (gsi (gsi (gsi (gsi S s 0 0) s 1 0) s 2 2) s 3 0) (s + 1) 0 0) (s + 1) 1 0) (s + 3) 0 0) (s + 3) 1 0) := by
  have h1 : gk s = 7 := by rcases hs with rfl | rfl <;> rfl
  have h2 : ∀ q, gr q s 4 = s + 1 := by rcases hs with rfl | rfl <;> exact fun q => rfl
  have h3 : ∀ q, gr q s 5 = s + 3 := by rcases hs with rfl | rfl <;> exact fun q => rfl
  have h4 : gk (s + 1) = 2 := by rcases hs with rfl | rfl <;> rfl
  have h5 : gk (s + 3) = 2 := by rcases hs with rfl | rfl <;> rfl
  unfold fX7_clear fX2_clear
  simp only [glet_s, gbd_s, h1, h2, h3, h4, h5, if_true]
/-- the class as its lines begin -/
def Xst (s : Nat) (u : Nat → Nat) (n : Nat) (X : GS) : Prop := VwX X u n 0 ∧ X.2.2 3 = s ∧ X.1 31 0 = 0 ∧ X.1 31 1 = -1 ∧ X.1 s 0 = 0 ∧ X.1 s 1 = 0 ∧ X.1 s 2 = 2 ∧ X.1 s 3 = 0 ∧ X.1 (s + 1) 0 = 0 ∧ X.1 (s + 1) 1 = 0 ∧ X.1 (s + 3) 0 = 0 ∧ X.1 (s + 3) 1 = 0
theorem x_start {S : GS} {s n : Nat} {u : Nat → Nat} (hs : s = 21 ∨ s = 26) (hn : n ≤ 400) (hu : ∀ i, i < n → u i < 256 ∧ S.1 1 i = gby (u i)) : ∃ X, fX6_read S (nI n) s = fX6_read_34 FU X (nI n) 0 ∧ Xst s u n X ∧ (∀ i, i < 3 → X.2.2 i = S.2.2 i) ∧ ∀ a b, a ≠ 31 → a ≠ 32 → (a < s ∨ s + 4 < a) → X.1 a b = S.1 a b := by
  have h1 : gk s = 7 := by rcases hs with rfl | rfl <;> rfl
  obtain ⟨S7, e7⟩ : ∃ S7, S7 = gsi (gsi (gsi (gsi (gsi (gsi (gsi (gsi (gsq (gsi (gsi S 31 0 0) 31 1 (-1)) 3 s) s 0 0) s 1 0) s 2 2) s 3 0) (s + 1) 0 0) (s + 1) 1 0) (s + 3) 0 0) (s + 3) 1 0 := ⟨_, rfl⟩
  have e3 : (gsq (gsi (gsi S 31 0 0) 31 1 (-1)) 3 s).2.2 3 = s := by simp [gsq]
  obtain ⟨S9, e9⟩ : ∃ S9, S9 = gsi (gsi (gsq S7 4 1) 32 1 (nI n)) 32 2 0 := ⟨_, rfl⟩
  have c7 : ∀ a b, a ≠ 31 → (a < s ∨ s + 4 < a) → S7.1 a b = S.1 a b := fun a b k1 k2 => by
    rw [e7, gsi_n (by omega), gsi_n (by omega), gsi_n (by omega), gsi_n (by omega), gsi_n (by omega), gsi_n (by omega), gsi_n (by omega), gsi_n (by omega)]
    show (gsi (gsi S 31 0 0) 31 1 (-1)).1 a b = _
    rw [gsi_n (by omega), gsi_n (by omega)]
  have c9 : ∀ a b, a ≠ 32 → S9.1 a b = S7.1 a b := fun a b k1 => by
    rw [e9, gsi_n (by omega), gsi_n (by omega)]
    rfl
  have t9 : TkX S9 u n 0 := by
    refine ⟨by rw [e9]; simp [gsi, gsq], ?_, ?_, Nat.zero_le _, hn, fun i hi => ⟨(hu i hi).1, ?_⟩⟩
    · rw [e9, gsi_n (by omega), gsi_s]
    · rw [e9, gsi_s]; rfl
    · rw [c9 _ _ (by decide), c7 _ _ (by decide) (by omega)]; exact (hu i hi).2
  obtain ⟨X, b1, b2, b3⟩ := VwX.of t9
  have cx : ∀ a b, a ≠ 32 → X.1 a b = S7.1 a b := fun a b k1 => by rw [b2.2 a b (by simp [wT, k1]), c9 a b k1]
  have q9 : X.2.2 = S9.2.2 := by rw [b2.1]
  refine ⟨X, ?_, ⟨b3, ?_, ?_, ?_, ?_, ?_, ?_, ?_, ?_, ?_, ?_, ?_⟩, fun i hi => ?_, fun a b k1 k2 k3 => by rw [cx a b k2, c7 a b k1 k3]⟩
  · unfold fX6_read
    rw [glet_s, glet_s, glet_s, e3, if_pos h1, x_clear hs, gbd_s, ← e7]
    unfold fX8_start
    rw [glet_s, if_neg (show ¬ (400 : Int32) < nI n from nI_nlt (a := 400) hn (by decide)), glet_s, glet_s, ← e9, b1, gbd_s, gbd_s, glet_s]
  · rw [q9, e9, e7]; simp [gsi, gsq]
  · rw [cx _ _ (by decide), e7, gsi_n (by omega), gsi_n (by omega), gsi_n (by omega), gsi_n (by omega), gsi_n (by omega), gsi_n (by omega), gsi_n (by omega), gsi_n (by omega)]
    show (gsi (gsi S 31 0 0) 31 1 (-1)).1 31 0 = 0
    rw [gsi_n (by omega), gsi_s]
  · rw [cx _ _ (by decide), e7, gsi_n (by omega), gsi_n (by omega), gsi_n (by omega), gsi_n (by omega), gsi_n (by omega), gsi_n (by omega), gsi_n (by omega), gsi_n (by omega)]
    show (gsi (gsi S 31 0 0) 31 1 (-1)).1 31 1 = -1
    rw [gsi_s]
  · rw [cx _ _ (by omega), e7, gsi_n (by omega), gsi_n (by omega), gsi_n (by omega), gsi_n (by omega), gsi_n (by omega), gsi_n (by omega), gsi_n (by omega), gsi_s]
  · rw [cx _ _ (by omega), e7, gsi_n (by omega), gsi_n (by omega), gsi_n (by omega), gsi_n (by omega), gsi_n (by omega), gsi_n (by omega), gsi_s]
  · rw [cx _ _ (by omega), e7, gsi_n (by omega), gsi_n (by omega), gsi_n (by omega), gsi_n (by omega), gsi_n (by omega), gsi_s]
  · rw [cx _ _ (by omega), e7, gsi_n (by omega), gsi_n (by omega), gsi_n (by omega), gsi_n (by omega), gsi_s]
  · rw [cx _ _ (by omega), e7, gsi_n (by omega), gsi_n (by omega), gsi_n (by omega), gsi_s]
  · rw [cx _ _ (by omega), e7, gsi_n (by omega), gsi_n (by omega), gsi_s]
  · rw [cx _ _ (by omega), e7, gsi_n (by omega), gsi_s]
  · rw [cx _ _ (by omega), e7, gsi_s]
  · rw [q9, e9, e7]
    have : i ≠ 3 ∧ i ≠ 4 := by omega
    simp [gsi, gsq, this]
theorem m_67 {S : GS} {N : Nat} : fX11_rules_67 (N + 3) S 2 = gbd (fX11_next (gsi (gsi (gsi (gsi S 58 2 0) 59 2 0) 58 3 0) 59 3 0)) fun r3 S4 => (fX11_rules_96 FU S4) := by
  have v0 : vp_nar .boolean (0 : Int32) = 0 := by decide
  rw [show N + 3 = N + 2 + 1 from rfl, fX11_rules_67, if_neg (by decide), if_pos (by decide), glet_s, glet_s, glet_s, v0, show (2 : Int32).toNatClampNeg = 2 by decide, show N + 2 = N + 1 + 1 from rfl, fX11_rules_67, if_neg (by decide), if_pos (by decide), glet_s, glet_s, glet_s, v0, show ((2 : Int32) + 1).toNatClampNeg = 3 by decide, fX11_rules_67, if_pos (by decide)]
theorem rules_run {S1 X : GS} {s n : Nat} {u : Nat → Nat} {nt : Nat} (hs : s = 21 ∨ s = 26) (hx : Xst s u n X) (h2 : S1.1 54 2 = nI nt) (hnt : nt ≤ 400) (hn : n ≤ nt) (hu : ∀ i, i < n → u i < 256 ∧ S1.1 55 i = nI (u i)) :
    ∃ X' M', fX6_read_34 FU X (nI n) 0 = some ((), X') ∧ fX11_rules S1 (nI n) = fX11_rules_118 M' ∧ Wr (wXl s) X X' ∧ M'.2 = S1.2 ∧ M'.1 54 2 = 0 ∧ (∀ a b, wMl a b = false → (a ≠ 54 ∨ (b ≠ 0 ∧ b ≠ 2 ∧ b ≠ 13)) → M'.1 a b = S1.1 a b) ∧ ((∃ k p, FL k p X' M') ∨ ∃ T', LB s T' X' M') := by
  obtain ⟨x1, x2, x3, x4, x5, x6, x7, x8, x9, x10, x11, x12⟩ := hx
  obtain ⟨S12, e12⟩ : ∃ S12, S12 = gsi (gsi (gsi (gsi (gsi (gsi (gsi (gsi (gsi (gsi S1 54 0 0) 54 13 (nI n)) 54 2 0) 54 14 0) 54 18 0) 54 19 (-1)) 54 10 0) 54 11 0) 54 12 0) 54 8 2 := ⟨_, rfl⟩
  obtain ⟨S16, e16⟩ : ∃ S16, S16 = gsi (gsi (gsi (gsi S12 58 2 0) 59 2 0) 58 3 0) 59 3 0 := ⟨_, rfl⟩
  have c16 : ∀ a b, a ≠ 54 → (a ≠ 58 ∨ b < 2) → (a ≠ 59 ∨ b < 2) → S16.1 a b = S1.1 a b := fun a b k1 k2 k3 => by
    rw [e16, gsi_n (by omega), gsi_n (by omega), gsi_n (by omega), gsi_n (by omega), e12, gsi_n (by omega), gsi_n (by omega), gsi_n (by omega), gsi_n (by omega), gsi_n (by omega), gsi_n (by omega), gsi_n (by omega), gsi_n (by omega), gsi_n (by omega), gsi_n (by omega)]
  have c54 : ∀ b, S16.1 54 b = S12.1 54 b := fun b => by rw [e16, gsi_n (by omega), gsi_n (by omega), gsi_n (by omega), gsi_n (by omega)]
  have t16 : TkM S16 u n 0 := by
    refine ⟨?_, ?_, Nat.zero_le _, by omega, fun i hi => ⟨(hu i hi).1, ?_⟩⟩
    · rw [c54, e12]; simp [gsi_r]
    · rw [c54, e12]; simp [gsi_r]; rfl
    · rw [c16 _ _ (by decide) (by omega) (by omega)]; exact (hu i hi).2
  obtain ⟨M, b1, b2, b3⟩ := VwM.of t16
  have hr : fX11_rules S1 (nI n) = fX11_rules_96 FU M := by
    unfold fX11_rules
    rw [glet_s, if_neg (nI_pos (by omega)), gsi_n (by omega), h2, if_pos (nI_le hn (by omega)), glet_s, glet_s, glet_s, glet_s, glet_s, glet_s, glet_s, glet_s, glet_s, glet_s, ← e12]
    show fX11_rules_67 (9997 + 3) S12 2 = _
    rw [m_67, ← e16, b1, gbd_s]
  have cM : ∀ a b, wN a b = false → M.1 a b = S16.1 a b := fun a b h => b2.2 a b h
  have hb : LB s 0 X M := by
    have m0 : ∀ w, w < 2 → M.1 59 (2 + w) = 0 ∧ M.1 58 (2 + w) = 0 := by
      intro w hw
      rw [cM _ _ rfl, cM _ _ rfl, e16]
      rcases (show w = 0 ∨ w = 1 by omega) with rfl | rfl <;> simp [gsi_r]
    refine ⟨x2, x3, x4, ?_, ?_, ⟨0, x6, ?_, by decide⟩, ?_, ⟨2, x7, ?_, by decide, by decide⟩, by decide, ?_, x8, fun w hw => ⟨?_, (m0 w hw).1.trans ?_, 0, by decide, ?_, (m0 w hw).2, fun _ => rfl, fun h => ?_⟩⟩
    · rw [cM _ _ rfl, c54, e12]; simp [gsi_r]
    · rw [cM _ _ rfl, c54, e12]; simp [gsi_r]
    · rw [cM _ _ rfl, c54, e12]; simp [gsi_r]; rfl
    · rw [x5, cM _ _ rfl, c54, e12]; simp [gsi_r]
    · rw [cM _ _ rfl, c54, e12]; simp [gsi_r]; rfl
    · rw [cM _ _ rfl, c54, e12]; simp [gsi_r]; rfl
    · rcases (show w = 0 ∨ w = 1 by omega) with rfl | rfl
      · exact x9
      · exact x11
    · rcases (show w = 0 ∨ w = 1 by omega) with rfl | rfl <;> decide
    · rcases (show w = 0 ∨ w = 1 by omega) with rfl | rfl
      · exact x10
      · exact x12
    · rcases (show w = 0 ∨ w = 1 by omega) with rfl | rfl <;> exact absurd h (by decide)
  obtain ⟨X', M', g1, g2, g3, g4, g5⟩ := read_loop hs (n + 1) 0 0 X M 0 (by omega) (Nat.le_refl _) x1 b3 hb
  refine ⟨X', M', g1 FU (by have := FU_gt (n := n + 2) (by omega); omega), hr.trans (g2 FU (by have := FU_gt (n := n + 2) (by omega); omega)), g3, ?_, ?_, fun a b k1 k2 => ?_, g5⟩
  · rw [g4.1, b2.1, e16, e12]; rfl
  · rw [g4.2 54 2 rfl, cM _ _ rfl, c54, e12]; simp [gsi_r]
  · rw [g4.2 a b k1]
    have kN : wN a b = false := by
      cases h : wN a b
      · rfl
      · rw [wN_l a b h] at k1; cases k1
    rw [cM a b kN]
    by_cases a54 : a = 54
    · subst a54
      have : b ≠ 8 ∧ ¬ (10 ≤ b ∧ b ≤ 12) ∧ ¬ (14 ≤ b ∧ b ≤ 19) := by
        simp [wMl] at k1
        omega
      rw [c54, e12, gsi_n (by omega), gsi_n (by omega), gsi_n (by omega), gsi_n (by omega), gsi_n (by omega), gsi_n (by omega), gsi_n (by omega), gsi_n (by omega), gsi_n (by omega), gsi_n (by omega)]
    · refine c16 a b a54 ?_ ?_
      · by_cases e : a = 58
        · subst e; simp [wMl] at k1; omega
        · exact Or.inl e
      · by_cases e : a = 59
        · subst e; simp [wMl] at k1; omega
        · exact Or.inl e
/-- what is read becomes what is in force, in the reference -/
theorem m_145 : ∀ d i N S, i + d = 128 → d < N → ∃ S', fX11_rules_145 N S (nI i) = fX11_rules_192 FU S' 0 ∧ S'.2 = S.2 ∧ (∀ a b, (a ≠ 56 ∧ a ≠ 57) ∨ 128 ≤ b → S'.1 a b = S.1 a b) ∧ ∀ a b, (a = 56 ∨ a = 57) → b < 128 → S'.1 a b = if b < i then S.1 a b else S.1 a (128 + b)
  | _, _, 0, _, _, h => absurd h (Nat.not_lt_zero _)
  | 0, i, N + 1, S, h, _ => by
    have : i = 128 := by omega
    subst this
    refine ⟨S, ?_, rfl, fun _ _ _ => rfl, fun a b _ hb => by rw [if_pos hb]⟩
    rw [fX11_rules_145, if_pos (show (128 : Int32) ≤ nI 128 by decide), glet_s]
  | d + 1, i, N + 1, S, h, hN => by
    have e1 : (128 : Int32) + nI i = nI (128 + i) := nI_add 128 i
    obtain ⟨S', r1, r2, r3, r4⟩ := m_145 d (i + 1) N (gsi (gsi S 56 i (S.1 56 (128 + i))) 57 i (S.1 57 (128 + i))) (by omega) (by omega)
    refine ⟨S', ?_, r2.trans rfl, fun a b hab => ?_, fun a b hab hb => ?_⟩
    · rw [fX11_rules_145, if_neg (show ¬ (128 : Int32) ≤ nI i from nI_ge (b := 128) (by omega) (by decide)), e1, if_pos (gib_nI (by omega) (by decide)), if_pos (gib_nI (by omega) (by decide)), nI_clamp (by omega), nI_clamp (by omega), glet_s, glet_s, glet_s, gsi_n (by omega), nI_1, r1]
    · rw [r3 a b hab, gsi_n (by omega), gsi_n (by omega)]
    · rw [r4 a b hab hb]
      by_cases c1 : b < i
      · rw [if_pos (by omega), if_pos c1, gsi_n (by omega), gsi_n (by omega)]
      · rw [if_neg c1]
        by_cases c2 : b = i
        · subst c2
          rw [if_pos (by omega)]
          rcases hab with rfl | rfl
          · rw [gsi_n (by omega), gsi_s]
          · rw [gsi_s]
        · rw [if_neg (by omega), gsi_n (by omega), gsi_n (by omega)]
theorem m_192 {S : GS} {b0 b1 : Bool} (h2 : S.1 59 2 = gz b0) (h3 : S.1 59 3 = gz b1) : ∃ S', fX11_rules_192 FU S 0 = some (S.1 54 11, S') ∧ S'.2 = S.2 ∧ S'.1 54 7 = S.1 54 8 ∧ S'.1 54 9 = S.1 54 10 ∧ (∀ w, w < 2 → S'.1 58 w = S.1 58 (2 + w) ∧ S'.1 59 w = S.1 59 (2 + w)) ∧ ∀ a b, a ≠ 58 → a ≠ 59 → (a ≠ 54 ∨ (b ≠ 7 ∧ b ≠ 9)) → S'.1 a b = S.1 a b := by
  have v : ∀ b : Bool, vp_nar .boolean (gz b) = gz b := by decide
  obtain ⟨S6, e6⟩ : ∃ S6, S6 = gsi (gsi (gsi (gsi S 58 0 (S.1 58 2)) 59 0 (gz b0)) 58 1 (S.1 58 3)) 59 1 (gz b1) := ⟨_, rfl⟩
  refine ⟨gsi (gsi S6 54 7 (S.1 54 8)) 54 9 (S.1 54 10), ?_, by rw [e6]; rfl, ?_, gsi_s, fun w hw => ?_, fun a b k1 k2 k3 => ?_⟩
  · rw [show FU = 9997 + 2 + 1 from rfl, fX11_rules_192, if_neg (by decide), if_pos (by decide), if_pos (by decide), glet_s, glet_s, glet_s, show ((2 : Int32) + 0).toNatClampNeg = 2 by decide, show (0 : Int32).toNatClampNeg = 0 by decide, gsi_n (by omega), h2, v, show 9997 + 2 = 9998 + 1 from rfl, fX11_rules_192, if_neg (by decide), if_pos (by decide), if_pos (by decide), glet_s, glet_s, glet_s, show ((2 : Int32) + ((0 : Int32) + 1)).toNatClampNeg = 3 by decide, show ((0 : Int32) + 1).toNatClampNeg = 1 by decide, gsi_n (by omega), gsi_n (by omega), gsi_n (by omega), gsi_n (by omega), gsi_n (by omega), h3, v, ← e6, show 9998 = 9997 + 1 from rfl, fX11_rules_192, if_pos (by decide), glet_s, glet_s]
    have q8 : S6.1 54 8 = S.1 54 8 := by rw [e6, gsi_n (by omega), gsi_n (by omega), gsi_n (by omega), gsi_n (by omega)]
    have q10 : S6.1 54 10 = S.1 54 10 := by rw [e6, gsi_n (by omega), gsi_n (by omega), gsi_n (by omega), gsi_n (by omega)]
    have q11 : S6.1 54 11 = S.1 54 11 := by rw [e6, gsi_n (by omega), gsi_n (by omega), gsi_n (by omega), gsi_n (by omega)]
    have r10 : (gsi S6 54 7 (S.1 54 8)).1 54 10 = S.1 54 10 := by rw [gsi_n (by omega), q10]
    have r11 : ∀ x, (gsi (gsi S6 54 7 (S.1 54 8)) 54 9 x).1 54 11 = S.1 54 11 := fun x => by rw [gsi_n (by omega), gsi_n (by omega), q11]
    rw [q8, r10, r11]
  · rw [gsi_n (by omega), gsi_s]
  · rw [gsi_n (by omega), gsi_n (by omega), gsi_n (by omega), gsi_n (by omega), e6]
    rcases (show w = 0 ∨ w = 1 by omega) with rfl | rfl
    · simp [gsi_r]; exact h2.symm
    · simp [gsi_r]; exact h3.symm
  · rw [gsi_n (by omega), gsi_n (by omega), e6, gsi_n (by omega), gsi_n (by omega), gsi_n (by omega), gsi_n (by omega)]
theorem m_118f {M : GS} (h : ¬ M.1 54 18 = 0) : fX11_rules_118 M = some (-1, gsi (gsi M 54 20 (M.1 54 18)) 54 21 (M.1 54 19)) := by
  unfold fX11_rules_118
  rw [glet_s, gsi_n (by omega), glet_s, gsi_n (by omega), gsi_n (by omega), if_neg h]
theorem m_118 {M : GS} {b0 b1 : Bool} (h : M.1 54 18 = 0) (h2 : M.1 59 2 = gz b0) (h3 : M.1 59 3 = gz b1) : ∃ M', fX11_rules_118 M = some (M.1 54 11, M') ∧ M'.2 = M.2 ∧ M'.1 54 20 = 0 ∧ M'.1 54 21 = M.1 54 19 ∧ M'.1 54 7 = M.1 54 8 ∧ M'.1 54 9 = M.1 54 10 ∧ (∀ w, w < 2 → M'.1 58 w = M.1 58 (2 + w) ∧ M'.1 59 w = M.1 59 (2 + w)) ∧ (∀ a b, (a = 56 ∨ a = 57) → b < 128 → M'.1 a b = M.1 a (128 + b)) ∧ ∀ a b, a ≠ 56 → a ≠ 57 → a ≠ 58 → a ≠ 59 → (a ≠ 54 ∨ (b ≠ 7 ∧ b ≠ 9 ∧ b ≠ 20 ∧ b ≠ 21)) → M'.1 a b = M.1 a b := by
  obtain ⟨S1, r1, r2, r3, r4⟩ := m_145 128 0 FU (gsi (gsi M 54 20 (M.1 54 18)) 54 21 (M.1 54 19)) (by decide) (FU_gt (by decide))
  have c1 : ∀ a b, a ≠ 56 → a ≠ 57 → (a ≠ 54 ∨ (b ≠ 20 ∧ b ≠ 21)) → S1.1 a b = M.1 a b := fun a b k1 k2 k3 => by rw [r3 a b (Or.inl ⟨k1, k2⟩), gsi_n (by omega), gsi_n (by omega)]
  obtain ⟨S2, p1, p2, p3, p4, p5, p6⟩ := m_192 (S := S1) (b0 := b0) (b1 := b1) (by rw [c1 _ _ (by decide) (by decide) (by decide)]; exact h2) (by rw [c1 _ _ (by decide) (by decide) (by decide)]; exact h3)
  refine ⟨S2, ?_, by rw [p2, r2]; rfl, ?_, ?_, ?_, ?_, fun w hw => ⟨?_, ?_⟩, fun a b hab hb => ?_, fun a b k1 k2 k3 k4 k5 => ?_⟩
  · unfold fX11_rules_118
    rw [glet_s, gsi_n (by omega), glet_s, gsi_n (by omega), gsi_n (by omega), if_pos h, glet_s, show (0 : Int32) = nI 0 from rfl, r1, p1, c1 _ _ (by decide) (by decide) (by decide)]
  · rw [p6 _ _ (by decide) (by decide) (by decide), r3 _ _ (by decide), gsi_n (by omega), gsi_s, h]
  · rw [p6 _ _ (by decide) (by decide) (by decide), r3 _ _ (by decide), gsi_s]
  · rw [p3, c1 _ _ (by decide) (by decide) (by decide)]
  · rw [p4, c1 _ _ (by decide) (by decide) (by decide)]
  · rw [(p5 w hw).1, c1 _ _ (by decide) (by decide) (by omega)]
  · rw [(p5 w hw).2, c1 _ _ (by decide) (by decide) (by omega)]
  · rw [p6 _ _ (by omega) (by omega) (by omega), r4 a b hab hb, if_neg (by omega), gsi_n (by omega), gsi_n (by omega)]
  · rw [p6 a b k3 k4 (by omega), c1 a b k1 k2 (by omega)]

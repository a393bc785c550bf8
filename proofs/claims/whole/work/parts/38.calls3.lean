/-! what hangs on a case -/
theorem gStr_f {f g : Nat → Nat → Int32} {k : Int32} {nn : Nat} (e : ∀ c, c ≤ 20 → g c = f c) : ∀ d, gStr g k nn d = gStr f k nn d
  | 0 => rfl
  | d + 1 => by
    funext j
    show (gStr g k nn d j || (decide (g 16 (nn - (d + 1)) ≤ k) && !(gStr g k nn d (nn - (d + 1))) && decide (g 15 (nn - (d + 1)) = 8) && decide (j = (g 18 (nn - (d + 1))).toNatClampNeg))) = _
    rw [gStr_f e d, e 15 (by decide), e 16 (by decide), e 18 (by decide)]
    rfl
theorem gLd_f {f g : Nat → Nat → Int32} {cn cn' : Nat → Bool} (e : ∀ c, c ≤ 20 → g c = f c) : ∀ m, (∀ n, n < m → f 15 n = 7 → cn' n = cn n) → gLd g cn' m = gLd f cn m
  | 0, _ => rfl
  | m + 1, h => by
    funext p
    have ih := gLd_f e m (fun n hn => h n (by omega))
    show (if cn' m = true ∧ g 15 m = 7 then (if gLd g cn' m p = max (gLd g cn' m (g 19 m).toNatClampNeg) (gLd g cn' m (g 18 m).toNatClampNeg) then min (gLd g cn' m (g 19 m).toNatClampNeg) (gLd g cn' m (g 18 m).toNatClampNeg) else gLd g cn' m p) else gLd g cn' m p) = (if cn m = true ∧ f 15 m = 7 then (if gLd f cn m p = max (gLd f cn m (f 19 m).toNatClampNeg) (gLd f cn m (f 18 m).toNatClampNeg) then min (gLd f cn m (f 19 m).toNatClampNeg) (gLd f cn m (f 18 m).toNatClampNeg) else gLd f cn m p) else gLd f cn m p)
    rw [ih, e 15 (by decide), e 18 (by decide), e 19 (by decide)]
    by_cases c7 : f 15 m = 7
    · rw [h m (by omega) c7]
    · rw [if_neg (fun z => c7 z.2), if_neg (fun z => c7 z.2)]
section
variable {S S' S1 S2 : GS} {X X2 : CT}
theorem ld_same {k wo wo' : Int32} (hC : CTof X S k wo) (hC2 : CTof X2 S' k wo') (e : ∀ c, c ≤ 20 → S'.1 c = S.1 c) (hn : X2.nn = X.nn) : X2.ld = X.ld := by
  rw [hC.2.2.2.2.2.1, hC2.2.2.2.2.2.1, hC.2.2.2.2.1, hC2.2.2.2.2.1, hn, hC.2.2.2.1, hC2.2.2.2.1]
  refine gLd_f e _ (fun n _ h7 => ?_)
  unfold gCn
  rw [gStr_f e, e 16 (by decide)]
  have : ∀ w (f : Nat → Nat → Int32), f 15 n = 7 → gOf f w n = false := fun w f h => by unfold gOf; rw [h]; simp
  rw [this _ _ h7, this _ _ (by rw [e 15 (by decide)]; exact h7)]
theorem size_same {k wo wo' : Int32} (hC : CTof X S k wo) (hC2 : CTof X2 S' k wo') (e : ∀ c, c ≤ 20 → S'.1 c = S.1 c) : X2.nn = X.nn ∧ X2.np = X.np ∧ X2.nk = X.nk ∧ X2.nc = X.nc := by
  obtain ⟨p1, p2, p3⟩ := hC.np
  obtain ⟨k1, k2, k3⟩ := hC.nk
  obtain ⟨c1, c2, c3⟩ := hC.nc
  obtain ⟨q1, q2, q3⟩ := hC2.np
  obtain ⟨l1, l2, l3⟩ := hC2.nk
  obtain ⟨d1, d2, d3⟩ := hC2.nc
  have n1 := hC.1.D.2.2.2.2.1
  have n2 := hC2.1.D.2.2.2.2.1
  have n3 := hC.1.D.2.2.2.2.2.2.1
  have n4 := hC2.1.D.2.2.2.2.2.2.1
  rw [hC.2.2.2.1] at n1
  rw [hC2.2.2.2.1] at n2
  rw [e 14 (by decide), n1] at n2
  rw [e 5 (by decide), p1] at q1
  rw [e 7 (by decide), k1] at l1
  rw [e 2 (by decide), c1] at d1
  exact ⟨((nI_eq (by omega) (by omega)).mp n2).symm, ((nI_eq (by omega) (by omega)).mp q1).symm, ((nI_eq (by omega) (by omega)).mp l1).symm, ((nI_eq (by omega) (by omega)).mp d1).symm⟩
theorem KZ.cg (h : KZ X S) (e : ∀ c, c ≤ 46 → c ≠ 35 → S'.1 c = S.1 c) (e2 : S'.2.2 = S.2.2) : KZ X S' := by
  obtain ⟨⟨h1, h2, h3⟩, h4⟩ := h
  refine ⟨⟨?_, fun c a b => by rw [e c (by omega) (by omega)]; exact h2 c a b, by rw [e2]; exact h3⟩, ?_⟩
  · unfold KX at h1 ⊢
    rw [e 37 (by decide) (by decide), e 40 (by decide) (by decide), e 41 (by decide) (by decide), e 43 (by decide) (by decide), e 44 (by decide) (by decide), e 45 (by decide) (by decide), e 46 (by decide) (by decide), e 36 (by decide) (by decide)]
    exact ⟨fun c hc => by rw [e c (by omega) (by omega)]; exact h1.1 c hc, h1.2⟩
  · unfold KY at h4 ⊢
    rw [e 36 (by decide) (by decide), e 38 (by decide) (by decide), e 39 (by decide) (by decide), e 42 (by decide) (by decide)]
    exact h4
theorem WA.cg {day : Int32} (h : WA X day S) (e : ∀ c, c ≤ 49 → S'.1 c = S.1 c) (e2 : S'.2.2 = S.2.2) : WA X day S' := by
  refine ⟨⟨h.1.1.cg (fun c hc _ => e c (by omega)) e2, fun c hc => ?_⟩, h.2.cg (e 35 (by decide))⟩
  rw [e 48 (by decide), e 49 (by decide)]
  exact h.1.2 c hc
/-- what stands, in short -/
noncomputable def CT.sd (X : CT) (day : Int32) (ct : Nat) (F : Int32) (p : Nat) : Nat := X.st (X.Td day) X.bb day p ct F
theorem CT.sd_le {day : Int32} {ct : Nat} {F : Int32} (p : Nat) : X.sd day ct F p ≤ 4 := by
  unfold CT.sd CT.st
  split
  · omega
  · have := gMx_le (fun d => CT.wt_le (X := X) (T := X.Td day) (B := X.bb) (day := day) (p := p) (ct := ct) (F := F) d) 32
    omega
theorem x_sd {k wo day : Int32} (hC : CTof X S k wo) (hW : WA X day S1) {p ct : Nat} {F : Int32} (hp : p < 12) (hct : ct < X.nc) : ∃ S', fX9_standOf S1 (nI p) (nI ct) F = some (nI (X.sd day ct F p), S') ∧ LE S1 S' :=
  x_standOf (B := X.bb) (F := F) hC.1 hC.2.1 hW.1.1 hW.2 (fun d hd => CT.Td_lt hC.1 hd) hW.hB hp hct
theorem m_sd {k wo day : Int32} {o : Nat → Nat} {m e : Nat} (hC : CTof X S k wo) (hA : MA X o m e day S1) {p ct : Nat} {F : Int32} (hp : p < 12) (hct : ct < X.nc) : ∃ S', fX11_standOf S1 (nI p) (nI ct) F = some (nI (X.sd day ct F p), S') ∧ Ms S1 S' := by
  obtain ⟨S', L, g1, g2, -, -⟩ := m_standOf (F := F) hC.1 hC.2.2.1 hA hp hct
  exact ⟨S', g1, g2⟩
theorem x_hangs1 {k wo day a1 : Int32} (hC : CTof X S k wo) (hW : WA X day S1) {ct : Nat} {F : Int32} (hct : ct < X.nc) (hz : Lc S S1) : ∃ S', fX10_hangs_49 FU S1 a1 (nI ct) F day k 0 = (gbd (fX9_see S' (S'.2.2 0) k a1) fun r3 S4 => gbd (fX9_goToDay S4 day) fun r6 S7 => glet (0 : Int32) fun v8 => glet (0 : Int32) fun v9 => (fX10_hangs_136 FU S7 (nI ct) F v8 v9)) ∧ Lc S S' ∧ ∀ q, q < X.np → S'.1 52 q = if X.ld q = q then nI (X.sd day ct F q) else 0 := by
  obtain ⟨p1, p2, p3⟩ := hC.np
  refine up_any (fun n (S2 : GS) p => fX10_hangs_49 n S2 a1 (nI ct) F day k p) X.np (fun p S2 => WA X day S2 ∧ Lc S S2 ∧ ∀ q, q < p → S2.1 52 q = if X.ld q = q then nI (X.sd day ct F q) else 0) (fun r => ∃ S', r = (gbd (fX9_see S' (S'.2.2 0) k a1) fun r3 S4 => gbd (fX9_goToDay S4 day) fun r6 S7 => glet (0 : Int32) fun v8 => glet (0 : Int32) fun v9 => (fX10_hangs_136 FU S7 (nI ct) F v8 v9)) ∧ Lc S S' ∧ ∀ q, q < X.np → S'.1 52 q = if X.ld q = q then nI (X.sd day ct F q) else 0)
    (fun n S2 h => ?_) (fun n p S2 hp h => Or.inr ?_) S1 ⟨hW, hz, fun q hq => absurd hq (Nat.not_lt_zero _)⟩ FU (FU_gt (by omega))
  · show ∃ S', fX10_hangs_49 (n + 1) S2 a1 (nI ct) F day k (nI X.np) = _ ∧ _
    have e5 : S2.1 5 0 = nI X.np := by rw [h.2.1.1 5 (by omega)]; exact p1
    rw [fX10_hangs_49, e5, if_pos (nI_le (Nat.le_refl _) (by omega))]
    exact ⟨S2, rfl, h.2⟩
  · show ∃ s', fX10_hangs_49 (n + 1) S2 a1 (nI ct) F day k (nI p) = fX10_hangs_49 n s' a1 (nI ct) F day k (nI (p + 1)) ∧ _
    obtain ⟨h1, h2, h3⟩ := h
    have e5 : S2.1 5 0 = nI X.np := by rw [h2.1 5 (by omega)]; exact p1
    have l := hC.1.ld_lt p hp
    rw [fX10_hangs_49, e5, if_neg (nI_ge hp (by omega)), if_pos (gib_nI (show p < 12 by omega) (by decide)), nI_clamp (show p < 2 ^ 31 by omega), h1.1.lead hp]
    simp only [nI_eq (show X.ld p < 2 ^ 31 by omega) (show p < 2 ^ 31 by omega), glet_s, nI_1]
    have put : ∀ S3 x, WA X day S3 → Lc S S3 → S3.1 52 = S2.1 52 → x = (if X.ld p = p then nI (X.sd day ct F p) else 0) → WA X day (gsi S3 52 p x) ∧ Lc S (gsi S3 52 p x) ∧ ∀ q, q < p + 1 → (gsi S3 52 p x).1 52 q = if X.ld q = q then nI (X.sd day ct F q) else 0 := by
      intro S3 x g1 g2 g3 g4
      refine ⟨g1.cg (fun c hc => gsi_ne (by omega)) rfl, ⟨fun c hc => by rw [gsi_ne (by omega)]; exact g2.1 c hc, g2.2⟩, fun q hq => ?_⟩
      rw [gsi_r]
      by_cases z : q = p
      · rw [if_pos ⟨rfl, z⟩, g4, z]
      · rw [if_neg (by rintro ⟨-, w⟩; exact z w), g3]; exact h3 q (by omega)
    by_cases cl : X.ld p = p
    · rw [if_pos cl]
      obtain ⟨S3, a1', a2⟩ := x_sd (F := F) hC h1 (show p < 12 by omega) hct
      rw [a1', gbd_s]
      exact ⟨_, rfl, put S3 _ (h1.le a2) (h2.tr a2.lc) (by rw [a2.1]) (by rw [if_pos cl])⟩
    · rw [if_neg cl]
      exact ⟨_, rfl, put S2 _ h1 h2 rfl (by rw [if_neg cl])⟩
theorem x_hangs2 {k wo day : Int32} (hC : CTof X S k wo) (hW : WA X day S1) {ct : Nat} {F : Int32} (hct : ct < X.nc) (h5 : S1.1 5 0 = nI X.np) {V : Nat → Nat} (hV : ∀ q, V q ≤ 4) (h52 : ∀ q, q < X.np → X.ld q = q → S1.1 52 q = nI (V q)) : ∃ M S', fX10_hangs_136 FU S1 (nI ct) F 0 0 = some (M, S') ∧ LE S1 S' ∧ ∀ q, q < 32 → bt M q = (decide (q < X.np) && (decide (X.ld q = q) && !decide (X.sd day ct F q = V q))) := by
  obtain ⟨p1, p2, p3⟩ := hC.np
  refine up_any (fun n (s : GS × Int32) p => fX10_hangs_136 n s.1 (nI ct) F s.2 p) X.np (fun p s => LE S1 s.1 ∧ ∀ q, q < 32 → bt s.2 q = (decide (q < p) && (decide (X.ld q = q) && !decide (X.sd day ct F q = V q)))) (fun r => ∃ M S', r = some (M, S') ∧ LE S1 S' ∧ ∀ q, q < 32 → bt M q = (decide (q < X.np) && (decide (X.ld q = q) && !decide (X.sd day ct F q = V q))))
    (fun n s h => ?_) (fun n p s hp h => Or.inr ?_) (S1, 0) ⟨LE.rf, fun q hq => (by rw [b_0]; simp)⟩ FU (FU_gt (by omega))
  · obtain ⟨S2, M⟩ := s
    show ∃ M' S', fX10_hangs_136 (n + 1) S2 (nI ct) F M (nI X.np) = _ ∧ _
    have e5 : S2.1 5 0 = nI X.np := by rw [h.1.1]; exact h5
    rw [fX10_hangs_136, e5, if_pos (nI_le (Nat.le_refl _) (by omega))]
    exact ⟨M, S2, rfl, h⟩
  · obtain ⟨S2, M⟩ := s
    show ∃ s' : GS × Int32, fX10_hangs_136 (n + 1) S2 (nI ct) F M (nI p) = fX10_hangs_136 n s'.1 (nI ct) F s'.2 (nI (p + 1)) ∧ _
    obtain ⟨h1, h2⟩ := h
    dsimp only at h1 h2
    have e5 : S2.1 5 0 = nI X.np := by rw [h1.1]; exact h5
    have hW2 := hW.le h1
    have l := hC.1.ld_lt p hp
    have keep : (decide (X.ld p = p) && !decide (X.sd day ct F p = V p)) = false → ∀ q, q < 32 → bt M q = (decide (q < p + 1) && (decide (X.ld q = q) && !decide (X.sd day ct F q = V q))) := by
      intro hz q hq
      rw [h2 q hq]
      by_cases z : q = p
      · subst z; rw [hz]; simp
      · have : (q < p + 1) = (q < p) := by apply propext; omega
        simp only [this]
    rw [fX10_hangs_136, e5, if_neg (nI_ge hp (by omega)), if_pos (gib_nI (show p < 12 by omega) (by decide)), nI_clamp (show p < 2 ^ 31 by omega), hW2.1.lead hp]
    simp only [nI_eq (show X.ld p < 2 ^ 31 by omega) (show p < 2 ^ 31 by omega), glet_s, nI_1]
    by_cases cl : X.ld p = p
    · rw [if_pos cl]
      obtain ⟨S3, a1, a2⟩ := x_sd (F := F) hC hW2 (show p < 12 by omega) hct
      have l3 := h1.tr a2
      have e52 : S3.1 52 p = nI (V p) := by rw [l3.1]; exact h52 p hp cl
      have sl := CT.sd_le (X := X) (day := day) (ct := ct) (F := F) p
      have vl := hV p
      rw [a1, gbd_s, e52]
      simp only [nI_eq (show X.sd day ct F p < 2 ^ 31 by omega) (show V p < 2 ^ 31 by omega)]
      by_cases cv : X.sd day ct F p = V p
      · rw [if_pos cv]
        exact ⟨(S3, M), rfl, l3, keep (by rw [decide_eq_true cv]; simp)⟩
      · rw [if_neg cv]
        refine ⟨(S3, _), rfl, l3, fun q hq => ?_⟩
        apply bool_iff
        show bt (M ||| 1 <<< (nI p &&& 31)) q = true ↔ _
        rw [b_put (show p < 32 by omega) hq, h2 q hq]
        by_cases z : q = p
        · subst z; simp [cl, cv]
        · have : (q < p + 1) = (q < p) := by apply propext; omega
          simp [this, z]
    · rw [if_neg cl]
      exact ⟨(S2, M), rfl, h1, keep (by rw [decide_eq_false cl]; rfl)⟩
/-- the frame of hangs: the row of stands too -/
def Rh (S S' : GS) : Prop := (∀ c, c < 54 ∨ (55 ≤ c ∧ c ≤ 76) ∨ 87 ≤ c → S'.1 c = S.1 c) ∧ (∀ j, j ≠ 28 → j ≠ 52 → j ≠ 58 → j ≠ 59 → j ≠ 60 → S'.1 54 j = S.1 54 j) ∧ S'.2.2 = S.2.2
theorem Rh.rf : Rh S S := ⟨fun _ _ => rfl, fun _ _ _ _ _ _ => rfl, rfl⟩
theorem Rh.tr (h : Rh S S1) (h2 : Rh S1 S2) : Rh S S2 := ⟨fun k a => (h2.1 k a).trans (h.1 k a), fun j a b c d e => (h2.2.1 j a b c d e).trans (h.2.1 j a b c d e), h2.2.2.trans h.2.2⟩
theorem Rn.rh (h : Rn S S1) : Rh S S1 := ⟨fun c hc => h.1 c (by omega), h.2⟩
theorem MF.rh (h : MF X S) (q : Rh S S') : MF X S' := ⟨fun k a b => by rw [q.1 k (by omega)]; exact h.1 k a b, fun j a => by rw [q.2.1 j (by rintro rfl; cases a) (by rintro rfl; cases a) (by rintro rfl; cases a) (by rintro rfl; cases a) (by rintro rfl; cases a)]; exact h.2 j a⟩
theorem IV_rh (h : IV S) (e : Rh S S') : IV S' := by
  refine IV_scr h (fun k j hi => ?_) (by rw [e.2.2]) (by rw [e.2.2])
  by_cases z : k = 54
  · subst z
    exact e.2.1 j (by rintro rfl; cases hi) (by rintro rfl; cases hi) (by rintro rfl; cases hi) (by rintro rfl; cases hi) (by rintro rfl; cases hi)
  · rw [e.1 k]
    simp only [irel, Bool.or_eq_true, Bool.and_eq_true, decide_eq_true_eq, beq_iff_eq] at hi
    omega
theorem m_hangs1 {k wo day a1 : Int32} {o : Nat → Nat} {m e : Nat} (hC : CTof X S k wo) (hA : MA X o m e day S1) {ct : Nat} {F : Int32} (hct : ct < X.nc) : ∃ S', fX11_hangs_44 FU S1 a1 (nI ct) F day k 0 = (gbd (fX11_knows S' k a1) fun r3 S4 => gbd (fX11_asOf S4 day) fun r6 S7 => glet (0 : Int32) fun v8 => glet (0 : Int32) fun v9 => (fX11_hangs_109 FU S7 (nI ct) F v8 v9)) ∧ Rh S1 S' ∧ ∀ q, q < X.np → S'.1 86 q = if X.ld q = q then nI (X.sd day ct F q) else -1 := by
  obtain ⟨p1, p2, p3⟩ := hC.np
  refine up_any (fun n (S2 : GS) p => fX11_hangs_44 n S2 a1 (nI ct) F day k p) X.np (fun p S2 => MA X o m e day S2 ∧ Rh S1 S2 ∧ ∀ q, q < p → S2.1 86 q = if X.ld q = q then nI (X.sd day ct F q) else -1) (fun r => ∃ S', r = (gbd (fX11_knows S' k a1) fun r3 S4 => gbd (fX11_asOf S4 day) fun r6 S7 => glet (0 : Int32) fun v8 => glet (0 : Int32) fun v9 => (fX11_hangs_109 FU S7 (nI ct) F v8 v9)) ∧ Rh S1 S' ∧ ∀ q, q < X.np → S'.1 86 q = if X.ld q = q then nI (X.sd day ct F q) else -1)
    (fun n S2 h => ?_) (fun n p S2 hp h => Or.inr ?_) S1 ⟨hA, Rh.rf, fun q hq => absurd hq (Nat.not_lt_zero _)⟩ FU (FU_gt (by omega))
  · show ∃ S', fX11_hangs_44 (n + 1) S2 a1 (nI ct) F day k (nI X.np) = _ ∧ _
    rw [fX11_hangs_44, h.1.1.1.np hC.1, if_pos (nI_le (Nat.le_refl _) (by omega))]
    exact ⟨S2, rfl, h.2⟩
  · show ∃ s', fX11_hangs_44 (n + 1) S2 a1 (nI ct) F day k (nI p) = fX11_hangs_44 n s' a1 (nI ct) F day k (nI (p + 1)) ∧ _
    obtain ⟨h1, h2, h3⟩ := h
    have l := hC.1.ld_lt p hp
    rw [fX11_hangs_44, h1.1.1.np hC.1, if_neg (nI_ge hp (by omega)), if_pos (gib_nI (show p < 12 by omega) (by decide)), nI_clamp (show p < 2 ^ 31 by omega), h1.lead hp]
    simp only [nI_eq (show X.ld p < 2 ^ 31 by omega) (show p < 2 ^ 31 by omega), glet_s, nI_1]
    have put : ∀ S3 x, MA X o m e day S3 → Rh S1 S3 → S3.1 86 = S2.1 86 → x = (if X.ld p = p then nI (X.sd day ct F p) else -1) → MA X o m e day (gsi S3 86 p x) ∧ Rh S1 (gsi S3 86 p x) ∧ ∀ q, q < p + 1 → (gsi S3 86 p x).1 86 q = if X.ld q = q then nI (X.sd day ct F q) else -1 := by
      intro S3 x g1 g2 g3 g4
      have rn : Rh S3 (gsi S3 86 p x) := ⟨fun c hc => gsi_ne (by omega), fun j _ _ _ _ _ => by rw [gsi_ne (by decide)], rfl⟩
      refine ⟨?_, g2.tr rn, fun q hq => ?_⟩
      · obtain ⟨k1, k2, k3, k4, k5, k6⟩ := g1
        refine ⟨k1.cg (k1.1.rh rn) (fun c a b => gsi_ne (by omega)) (by rw [gsi_ne (by decide)]), k2, by rw [gsi_ne (by decide)]; exact k3, by rw [gsi_ne (by decide)]; exact k4, k5, ?_⟩
        unfold MW at k6 ⊢
        rw [gsi_ne (by decide), gsi_ne (by decide)]
        exact k6
      · rw [gsi_r]
        by_cases z : q = p
        · rw [if_pos ⟨rfl, z⟩, g4, z]
        · rw [if_neg (by rintro ⟨-, w⟩; exact z w), g3]; exact h3 q (by omega)
    by_cases cl : X.ld p = p
    · rw [if_pos cl]
      obtain ⟨S3, a1', a2⟩ := m_sd (F := F) hC h1 (show p < 12 by omega) hct
      rw [a1', gbd_s]
      exact ⟨_, rfl, put S3 _ (h1.ms a2) (h2.tr a2.rn.rh) (a2.1 86 (by decide)) (by rw [if_pos cl])⟩
    · rw [if_neg cl]
      exact ⟨_, rfl, put S2 _ h1 h2 rfl (by rw [if_neg cl])⟩
theorem m_hangs2 {k wo day : Int32} {o : Nat → Nat} {m e : Nat} (hC : CTof X S k wo) (hA : MA X o m e day S1) {ct : Nat} {F : Int32} (hct : ct < X.nc) {V : Nat → Nat} (hV : ∀ q, V q ≤ 4) (h86 : ∀ q, q < X.np → S1.1 86 q = if X.ld q = q then nI (V q) else -1) : ∃ M S', fX11_hangs_109 FU S1 (nI ct) F 0 0 = some (M, S') ∧ Ms S1 S' ∧ ∀ q, q < 32 → bt M q = (decide (q < X.np) && (decide (X.ld q = q) && !decide (X.sd day ct F q = V q))) := by
  obtain ⟨p1, p2, p3⟩ := hC.np
  refine up_any (fun n (s : GS × Int32) p => fX11_hangs_109 n s.1 (nI ct) F s.2 p) X.np (fun p s => Ms S1 s.1 ∧ ∀ q, q < 32 → bt s.2 q = (decide (q < p) && (decide (X.ld q = q) && !decide (X.sd day ct F q = V q)))) (fun r => ∃ M S', r = some (M, S') ∧ Ms S1 S' ∧ ∀ q, q < 32 → bt M q = (decide (q < X.np) && (decide (X.ld q = q) && !decide (X.sd day ct F q = V q))))
    (fun n s h => ?_) (fun n p s hp h => Or.inr ?_) (S1, 0) ⟨Ms.rf, fun q hq => (by rw [b_0]; simp)⟩ FU (FU_gt (by omega))
  · obtain ⟨S2, M⟩ := s
    show ∃ M' S', fX11_hangs_109 (n + 1) S2 (nI ct) F M (nI X.np) = _ ∧ _
    rw [fX11_hangs_109, (hA.ms h.1).1.1.np hC.1, if_pos (nI_le (Nat.le_refl _) (by omega))]
    exact ⟨M, S2, rfl, h⟩
  · obtain ⟨S2, M⟩ := s
    show ∃ s' : GS × Int32, fX11_hangs_109 (n + 1) S2 (nI ct) F M (nI p) = fX11_hangs_109 n s'.1 (nI ct) F s'.2 (nI (p + 1)) ∧ _
    obtain ⟨h1, h2⟩ := h
    dsimp only at h1 h2
    have hA2 := hA.ms h1
    have vl := hV p
    have keep : (decide (X.ld p = p) && !decide (X.sd day ct F p = V p)) = false → ∀ q, q < 32 → bt M q = (decide (q < p + 1) && (decide (X.ld q = q) && !decide (X.sd day ct F q = V q))) := by
      intro hz q hq
      rw [h2 q hq]
      by_cases z : q = p
      · subst z; rw [hz]; simp
      · have : (q < p + 1) = (q < p) := by apply propext; omega
        simp only [this]
    rw [fX11_hangs_109, hA2.1.1.np hC.1, if_neg (nI_ge hp (by omega)), if_pos (gib_nI (show p < 12 by omega) (by decide)), nI_clamp (show p < 2 ^ 31 by omega), h1.1 86 (by decide), h86 p hp]
    simp only [glet_s, nI_1]
    by_cases cl : X.ld p = p
    · rw [if_pos cl, if_neg (nI_nm1 (by omega))]
      obtain ⟨S3, a1, a2⟩ := m_sd (F := F) hC hA2 (show p < 12 by omega) hct
      have l3 := h1.tr a2
      have e86 : S3.1 86 p = nI (V p) := by rw [l3.1 86 (by decide), h86 p hp, if_pos cl]
      have sl := CT.sd_le (X := X) (day := day) (ct := ct) (F := F) p
      rw [a1, gbd_s, e86]
      simp only [nI_eq (show X.sd day ct F p < 2 ^ 31 by omega) (show V p < 2 ^ 31 by omega)]
      by_cases cv : X.sd day ct F p = V p
      · rw [if_pos cv]
        exact ⟨(S3, M), rfl, l3, keep (by rw [decide_eq_true cv]; simp)⟩
      · rw [if_neg cv]
        refine ⟨(S3, _), rfl, l3, fun q hq => ?_⟩
        apply bool_iff
        show bt (M ||| 1 <<< (nI p &&& 31)) q = true ↔ _
        rw [b_put (show p < 32 by omega) hq, h2 q hq]
        by_cases z : q = p
        · subst z; simp [cl, cv]
        · have : (q < p + 1) = (q < p) := by apply propext; omega
          simp [this, z]
    · rw [if_neg cl, if_pos rfl]
      exact ⟨(S2, M), rfl, h1, keep (by rw [decide_eq_false cl]; rfl)⟩
theorem call_hangs (h : IV S) (a1 a2 a3 a4 a5 : Int32) : Both S (fun S => fX10_hangs S a1 a2 a3 a4 a5) (fun S => fX11_hangs S a1 a2 a3 a4 a5) := by
  obtain ⟨X, S9, hC, w1, w2, w3⟩ := ask_world h a5 (-1)
  obtain ⟨p1, p2, p3⟩ := hC.np
  obtain ⟨k1, k2, k3⟩ := hC.nk
  obtain ⟨c1, c2, c3⟩ := hC.nc
  have xk := x_isCase (S := S) (a := a1) k1 (by omega)
  have xa := x_isAskable (S := S) (a := a2) (b := a3) (c := a4) (d := a5) c1 (by omega)
  have mk : ∀ S', Lc S S' → fX11_isCase (gsi S' 54 0 0) a1 = some (gz (gib a1 X.nk)) := fun S' q => m_isCase (by rw [thr_at 35 (by decide), q.1 54 (by omega)]; exact k2) (by omega)
  have ma : ∀ S', Lc S S' → fX11_isAsked (gsi S' 54 0 0) a2 a3 a4 a5 = some (gz (gib a2 X.nc && gib a3 1024 && gib a4 10000 && gib a5 10000)) := fun S' q => m_isAsked (by rw [thr_at 30 (by decide), q.1 54 (by omega)]; exact c2) (by omega)
  cases hk : gib a1 X.nk
  · refine both_no h (-1) ?_ ?_
    · show fX10_hangs S a1 a2 a3 a4 a5 = _
      unfold fX10_hangs
      rw [xk, gbv_s, hk, if_pos gzf0]
    · show fX11_hangs S a1 a2 a3 a4 a5 = _
      unfold fX11_hangs
      rw [glet_s, mk S Lc.rf, gbv_s, hk, if_pos gzf0]
  cases ha : (gib a2 X.nc && gib a3 1024 && gib a4 10000 && gib a5 10000)
  · refine both_no h (-1) ?_ ?_
    · show fX10_hangs S a1 a2 a3 a4 a5 = _
      unfold fX10_hangs
      rw [xk, gbv_s, hk, if_neg gzt0, xa, gbv_s, ha, if_pos gzf0]
    · show fX11_hangs S a1 a2 a3 a4 a5 = _
      unfold fX11_hangs
      rw [glet_s, mk S Lc.rf, gbv_s, hk, if_neg gzt0, ma S Lc.rf, gbv_s, ha, if_pos gzf0]
  rw [ha] at xa
  simp only [ha] at ma
  simp only [Bool.and_eq_true] at ha
  obtain ⟨ct, hct, rfl⟩ := gib_ex ha.1.1.1 (by omega)
  obtain ⟨S12, d1, d2, d3⟩ := x_atDay (day := a4) hC w3
  have z12 : Lc S S12 := w2.lc.tr (Fr35.lc d2)
  obtain ⟨S13, e1, e2, e3⟩ := x_hangs1 (a1 := a1) (F := a3) hC d3 hct z12
  have h13 := IV_lc h e2
  obtain ⟨X2, S14, hC2, v1, v2, v3⟩ := ask_world h13 a5 a1
  obtain ⟨s1, s2, s3, s4⟩ := size_same hC hC2 (fun c hc => e2.1 c (by omega))
  have ls := ld_same hC hC2 (fun c hc => e2.1 c (by omega)) s1
  obtain ⟨S15, f1, f2, f3⟩ := x_atDay (day := a4) hC2 v3
  have z15 : Lc S13 S15 := v2.lc.tr (Fr35.lc f2)
  have hct2 : ct < X2.nc := by rw [s4]; exact hct
  obtain ⟨M, S16, g1, g2, g3⟩ := x_hangs2 (F := a3) (V := X.sd a4 ct a3) hC2 f3 hct2 (by rw [z15.1 5 (by omega)]; exact hC2.np.1) (fun q => CT.sd_le q) (fun q hq hl => by
    rw [f2.at 52 (by decide), v2.1 52 (by omega), e3 q (by omega), if_pos (by rw [← ls]; exact hl)])
  have z16 : Lc S13 S16 := z15.tr g2.lc
  have z16' : Lc S S16 := e2.tr z16
  obtain ⟨T10, T13, o, m, e, i1, i2, i3, i4⟩ := m_atDay (day := a4) hC (Or.inl rfl) (mf_of hC.2.2.2.1 z16')
  obtain ⟨T14, j1, j2, j3⟩ := m_hangs1 (a1 := a1) (F := a3) hC i4 hct
  have rn14 := i3.rh.tr j2
  have mf2 : MF X2 T14 := (mf_of hC2.2.2.2.1 z16).rh rn14
  obtain ⟨T15, T16, o2, m2, e2', l1, l2, l3, l4⟩ := m_atDay (day := a4) hC2 (Or.inr (by rw [s3]; exact hk)) mf2
  obtain ⟨M', T17, n1, n2, n3⟩ := m_hangs2 (F := a3) (V := X.sd a4 ct a3) hC2 l4 hct2 (fun q => CT.sd_le q) (fun q hq => by
    rw [l3.1 86 (by omega), j3 q (by omega), ls])
  have hMM : M' = M := b_ext (fun q hq => by rw [n3 q hq, g3 q hq])
  refine ⟨M, S16, T17, ?_, ?_, IV_rh (IV_thr (IV_lc h z16') 0) ((rn14.tr l3.rh).tr n2.rn.rh)⟩
  · show fX10_hangs S a1 (nI ct) a3 a4 a5 = _
    unfold fX10_hangs
    rw [xk, gbv_s, hk, if_neg gzt0, xa, gbv_s, if_neg gzt0, w1, gbd_s, d1, gbd_s, glet_s, e1, v1, gbd_s, f1, gbd_s, glet_s, glet_s, g1]
  · show fX11_hangs S16 a1 (nI ct) a3 a4 a5 = _
    unfold fX11_hangs
    rw [glet_s, mk S16 z16', gbv_s, hk, if_neg gzt0, ma S16 z16', gbv_s, if_neg gzt0, i1, gbd_s, i2, gbd_s, glet_s, j1, l1, gbd_s, l2, gbd_s, glet_s, glet_s, n1, hMM]
end

/-! apart: the reference, and the call -/
section
variable {S S' S1 S2 : GS} {X : CT}
theorem m_parts {k wo day : Int32} {o : Nat → Nat} {m e : Nat} (hC : CTof X S k wo) (hA : MA X o m e day S1) {a b s : Nat} (ha : a < 12) (hb : b < 12) (hs : s < 1024) : fX11_parts S1 (nI s) (nI a) (nI b) = some (gz (X.pt day a b s)) := by
  have hm := hA.1.2.2.1.1
  have he := hA.2.1
  have hnk := hC.nk.2.2
  have hF := hA.1.1
  have hM := hA.1.2.1
  have hO := hA.1.2.2.1
  have ol : ∀ i, i < e → o i < X.nk := fun i hi => hO.lt hC.1 (by omega)
  have oT : ∀ i, i < e → X.Td day (o i) = true := fun i hi => (hA.2.2.2.2.1 _).mpr ⟨i, hi, rfl⟩
  have r81 : ∀ i, i < e → S1.1 81 i = nI (o i) := fun i hi => (hO.2.1 i (by omega)).1
  have r69 : ∀ i, i < e → S1.1 69 (o i) = nI (X.fx (o i)) := fun i hi => by
    rw [hF.1 69 (by decide) (by decide), (hC.1.D.2.2.2.1.2.2.2.1 _ (ol i hi)).2.2.2.1]
    exact (CT.fx_lt hC.1 (ol i hi)).2
  have hel : ∀ i, i < e → ∀ q, q < 12 → fX11_isHeld S1 (nI (o i)) (nI q) (nI (X.fx (o i))) = some (gz (X.hd day q (o i))) := fun i hi q hq => by
    rw [← (CT.fx_lt hC.1 (ol i hi)).2, m_held hC.1 hF hM (ol i hi) hq]
    unfold CT.hd
    rw [oT i hi, Bool.true_and]
  have xz : ∀ i j, i < e → j < e → ((nI (X.fx (o i)) ^^^ nI (X.fx (o j))) &&& nI s = 0) = ((X.fx (o i) ^^^ X.fx (o j)) &&& s = 0) := fun i j hi hj => by
    rw [nx_xor, nx_and]
    have := xorlt (CT.fx_lt hC.1 (ol i hi)).1 (CT.fx_lt hC.1 (ol j hj)).1
    have h2 : (X.fx (o i) ^^^ X.fx (o j)) &&& s < 2 ^ 31 := Nat.lt_of_le_of_lt Nat.and_le_right (by omega)
    exact propext (nI_eq h2 (by decide))
  have no : ∀ i j, i < e → j < e → X.hd day a (o i) = true → X.hd day b (o j) = true → (X.fx (o i) ^^^ X.fx (o j)) &&& s = 0 → X.pt day a b s = false := fun i j hi hj h1 h2 h3 => by
    unfold CT.pt
    rw [gAny_iff.mpr ⟨o i, by have := ol i hi; omega, by rw [h1, gAny_iff.mpr ⟨o j, by have := ol j hj; omega, by rw [h2, decide_eq_true h3]; rfl⟩]; rfl⟩]
    rfl
  unfold fX11_parts
  rw [glet_s]
  refine up_any (fun n (_ : Unit) i => fX11_parts_3 n S1 (nI s) (nI a) (nI b) i) e (fun i _ => ∀ i', i' < i → X.hd day a (o i') = true → ∀ j, j < e → X.hd day b (o j) = true → ¬ (X.fx (o i') ^^^ X.fx (o j)) &&& s = 0) (fun r => r = some (gz (X.pt day a b s)))
    (fun n _ h => ?_) (fun n i _ hi h => ?_) () (fun i' hi' => absurd hi' (Nat.not_lt_zero _)) FU (FU_gt (by omega))
  · show fX11_parts_3 (n + 1) S1 (nI s) (nI a) (nI b) (nI e) = _
    rw [fX11_parts_3, hA.2.2.1, if_pos (nI_le (Nat.le_refl _) (by omega))]
    have : X.pt day a b s = true := by
      unfold CT.pt
      rw [gAny_f]
      · rfl
      · intro c hc
        cases h1 : X.hd day a c
        · rfl
        · rw [Bool.true_and]
          apply gAny_f
          intro d hd
          cases h2 : X.hd day b d
          · rfl
          · have t1 : X.Td day c = true := by unfold CT.hd at h1; simp only [Bool.and_eq_true] at h1; exact h1.1
            have t2 : X.Td day d = true := by unfold CT.hd at h2; simp only [Bool.and_eq_true] at h2; exact h2.1
            obtain ⟨i, i1, rfl⟩ := (hA.2.2.2.2.1 c).mp t1
            obtain ⟨j, j1, rfl⟩ := (hA.2.2.2.2.1 d).mp t2
            rw [Bool.true_and, decide_eq_false (h i i1 h1 j j1 h2)]
    rw [this]; rfl
  · show (fX11_parts_3 (n + 1) S1 (nI s) (nI a) (nI b) (nI i) = _) ∨ ∃ s' : Unit, fX11_parts_3 (n + 1) S1 (nI s) (nI a) (nI b) (nI i) = fX11_parts_3 n S1 (nI s) (nI a) (nI b) (nI (i + 1)) ∧ _
    have oli := ol i hi
    rw [fX11_parts_3, hA.2.2.1, if_neg (nI_ge hi (by omega)), if_pos (gib_nI (show i < 32 by omega) (by decide)), nI_clamp (show i < 2 ^ 31 by omega), r81 i hi, if_pos (gib_nI (show o i < 32 by omega) (by decide)), nI_clamp (show o i < 2 ^ 31 by omega), r69 i hi, hel i hi a ha, gbv_s]
    simp only [gz_0, glet_s, nI_1]
    cases h1 : X.hd day a (o i)
    · rw [if_pos rfl]
      refine Or.inr ⟨(), rfl, fun i' hi' h1' => ?_⟩
      by_cases z : i' = i
      · rw [z, h1] at h1'; cases h1'
      · exact h i' (by omega) h1'
    · rw [if_neg (by decide)]
      have inner : (fX11_parts_45 (fX11_parts_3 n) FU S1 (nI s) (nI a) (nI b) (nI i) 0 = some (gz (X.pt day a b s))) ∨ (fX11_parts_45 (fX11_parts_3 n) FU S1 (nI s) (nI a) (nI b) (nI i) 0 = fX11_parts_3 n S1 (nI s) (nI a) (nI b) (nI (i + 1)) ∧ ∀ j, j < e → X.hd day b (o j) = true → ¬ (X.fx (o i) ^^^ X.fx (o j)) &&& s = 0) := by
        refine up_any (fun n1 (_ : Unit) j => fX11_parts_45 (fX11_parts_3 n) n1 S1 (nI s) (nI a) (nI b) (nI i) j) e (fun j _ => ∀ j', j' < j → X.hd day b (o j') = true → ¬ (X.fx (o i) ^^^ X.fx (o j')) &&& s = 0) (fun r => (r = some (gz (X.pt day a b s))) ∨ (r = fX11_parts_3 n S1 (nI s) (nI a) (nI b) (nI (i + 1)) ∧ ∀ j, j < e → X.hd day b (o j) = true → ¬ (X.fx (o i) ^^^ X.fx (o j)) &&& s = 0))
          (fun n1 _ h => ?_) (fun n1 j _ hj h => ?_) () (fun j' hj' => absurd hj' (Nat.not_lt_zero _)) FU (FU_gt (by omega))
        · show (fX11_parts_45 (fX11_parts_3 n) (n1 + 1) S1 (nI s) (nI a) (nI b) (nI i) (nI e) = _) ∨ _
          rw [fX11_parts_45, hA.2.2.1, if_pos (nI_le (Nat.le_refl _) (by omega)), glet_s, nI_1]
          exact Or.inr ⟨rfl, h⟩
        · have olj := ol j hj
          have e45 : fX11_parts_45 (fX11_parts_3 n) (n1 + 1) S1 (nI s) (nI a) (nI b) (nI i) (nI j) = if (X.fx (o i) ^^^ X.fx (o j)) &&& s = 0 then (if X.hd day b (o j) = false then fX11_parts_45 (fX11_parts_3 n) n1 S1 (nI s) (nI a) (nI b) (nI i) (nI (j + 1)) else some 0) else fX11_parts_45 (fX11_parts_3 n) n1 S1 (nI s) (nI a) (nI b) (nI i) (nI (j + 1)) := by
            rw [fX11_parts_45, hA.2.2.1, if_neg (nI_ge hj (by omega)), if_pos (gib_nI (show i < 32 by omega) (by decide)), nI_clamp (show i < 2 ^ 31 by omega), r81 i hi, if_pos (gib_nI (show o i < 32 by omega) (by decide)), nI_clamp (show o i < 2 ^ 31 by omega), r69 i hi, if_pos (gib_nI (show j < 32 by omega) (by decide)), nI_clamp (show j < 2 ^ 31 by omega), r81 j hj, if_pos (gib_nI (show o j < 32 by omega) (by decide)), nI_clamp (show o j < 2 ^ 31 by omega), r69 j hj, hel j hj b hb, gbv_s]
            simp only [xz i j hi hj, gz_0, glet_s, nI_1]
          show ((fX11_parts_45 (fX11_parts_3 n) (n1 + 1) S1 (nI s) (nI a) (nI b) (nI i) (nI j) = _) ∨ _) ∨ ∃ s' : Unit, fX11_parts_45 (fX11_parts_3 n) (n1 + 1) S1 (nI s) (nI a) (nI b) (nI i) (nI j) = fX11_parts_45 (fX11_parts_3 n) n1 S1 (nI s) (nI a) (nI b) (nI i) (nI (j + 1)) ∧ _
          rw [e45]
          by_cases cx : (X.fx (o i) ^^^ X.fx (o j)) &&& s = 0
          · rw [if_pos cx]
            cases h2 : X.hd day b (o j)
            · rw [if_pos rfl]
              refine Or.inr ⟨(), rfl, fun j' hj' h2' => ?_⟩
              by_cases z : j' = j
              · rw [z, h2] at h2'; cases h2'
              · exact h j' (by omega) h2'
            · rw [if_neg (by decide)]
              refine Or.inl (Or.inl ?_)
              rw [no i j hi hj h1 h2 cx]; rfl
          · rw [if_neg cx]
            refine Or.inr ⟨(), rfl, fun j' hj' h2' => ?_⟩
            by_cases z : j' = j
            · rw [z]; exact cx
            · exact h j' (by omega) h2'
      rcases inner with q | ⟨q1, q2⟩
      · exact Or.inl q
      · refine Or.inr ⟨(), q1, fun i' hi' h1' => ?_⟩
        by_cases z : i' = i
        · rw [z]; exact q2
        · exact h i' (by omega) h1'
theorem m_apart {k wo day : Int32} {o : Nat → Nat} {m e : Nat} (hC : CTof X S k wo) (hA : MA X o m e day S1) {a b : Nat} (ha : a < X.np) (hb : b < X.np) : fX11_apart_56 FU S1 (nI a) (nI b) (-1) 0 = some (gFv (gFt (X.pt day (X.ld a) (X.ld b)) 1024), S1) := by
  obtain ⟨p1, p2, p3⟩ := hC.np
  have la := hC.1.ld_lt a ha
  have lb := hC.1.ld_lt b hb
  refine up_any (fun n (A : Int32) g => fX11_apart_56 n S1 (nI a) (nI b) A g) 1024 (fun g A => A = gFv (gFt (X.pt day (X.ld a) (X.ld b)) g)) (fun r => r = some (gFv (gFt (X.pt day (X.ld a) (X.ld b)) 1024), S1))
    (fun n A h => ?_) (fun n g A hg h => Or.inr ?_) (-1) rfl FU (FU_gt (by omega))
  · show fX11_apart_56 (n + 1) S1 (nI a) (nI b) A (nI 1024) = _
    rw [fX11_apart_56, if_pos (show (1024 : Int32) ≤ nI 1024 by decide), h]
  · show ∃ s', fX11_apart_56 (n + 1) S1 (nI a) (nI b) A (nI g) = fX11_apart_56 n S1 (nI a) (nI b) s' (nI (g + 1)) ∧ _
    have n1024 : ¬ (1024 : Int32) ≤ nI g := by
      show ¬ nI 1024 ≤ nI g
      exact nI_ge hg (by decide)
    have e83 : fX11_apart_83 (fX11_apart_56 n) S1 (nI a) (nI b) A (nI g) = if X.pt day (X.ld a) (X.ld b) g = false then fX11_apart_56 n S1 (nI a) (nI b) A (nI (g + 1)) else fX11_apart_56 n S1 (nI a) (nI b) (nI g) (nI (g + 1)) := by
      unfold fX11_apart_83
      rw [if_pos (gib_nI (show a < 12 by omega) (by decide)), if_pos (gib_nI (show b < 12 by omega) (by decide)), nI_clamp (show a < 2 ^ 31 by omega), nI_clamp (show b < 2 ^ 31 by omega), hA.lead ha, hA.lead hb, m_parts hC hA (show X.ld a < 12 by omega) (show X.ld b < 12 by omega) hg, gbv_s]
      simp only [gz_0, glet_s, nI_1]
    rw [fX11_apart_56, if_neg n1024, e83]
    cases hq : gFt (X.pt day (X.ld a) (X.ld b)) g with
    | none =>
      rw [hq] at h
      have hA1 : A = -1 := h
      rw [if_pos hA1, ft_step, hq]
      cases hp : X.pt day (X.ld a) (X.ld b) g
      · rw [if_pos rfl]
        refine ⟨A, rfl, ?_⟩
        show A = gFv (if false = true then some g else none)
        rw [hA1]; rfl
      · rw [if_neg (by decide)]
        exact ⟨nI g, rfl, rfl⟩
    | some d =>
      rw [hq] at h
      have hA1 : A = nI d := h
      have hd := ft_lt hq
      have cd : gCt d ≤ 12 := fb_ct_le _ _
      have cg : gCt g ≤ 12 := fb_ct_le _ _
      rw [if_neg (by rw [hA1]; exact nI_nm1 (by omega)), m_bits, gbv_s, hA1, m_bits, gbv_s]
      have l := nI_leI (show gCt d < 2 ^ 31 by omega) (show gCt g < 2 ^ 31 by omega)
      unfold gCt at l
      simp only [l, glet_s, nI_1]
      have e : gFt (X.pt day (X.ld a) (X.ld b)) (g + 1) = if gCt g < gCt d ∧ X.pt day (X.ld a) (X.ld b) g = true then some g else some d := by rw [ft_step, hq]
      by_cases c1 : gCt d ≤ gCt g
      · rw [if_pos (show fb_ct (bt (nI d)) 12 ≤ fb_ct (bt (nI g)) 12 from c1)]
        refine ⟨nI d, rfl, ?_⟩
        rw [e, if_neg (by omega)]; rfl
      · rw [if_neg (show ¬ fb_ct (bt (nI d)) 12 ≤ fb_ct (bt (nI g)) 12 from c1)]
        cases hp : X.pt day (X.ld a) (X.ld b) g
        · rw [if_pos rfl]
          refine ⟨nI d, rfl, ?_⟩
          rw [e, hp, if_neg (by simp)]; rfl
        · rw [if_neg (by decide)]
          refine ⟨nI g, rfl, ?_⟩
          rw [e, hp, if_pos ⟨by omega, rfl⟩]; rfl
theorem call_apart (h : IV S) (a1 a2 a3 a4 : Int32) : Both S (fun S => fX10_apart S a1 a2 a3 a4) (fun S => fX11_apart S a1 a2 a3 a4) := by
  obtain ⟨X, S9, hC, w1, w2, w3⟩ := ask_world h a4 (-1)
  obtain ⟨p1, p2, p3⟩ := hC.np
  have xp1 := x_isPoint (S := S) (a := a1) p1 (by omega)
  have xp2 := x_isPoint (S := S) (a := a2) p1 (by omega)
  have mp1 : ∀ S', Lc S S' → fX11_isPoint (gsi S' 54 0 0) a1 = some (gz (gib a1 X.np)) := fun S' q => m_isPoint (by rw [thr_at 33 (by decide), q.1 54 (by omega)]; exact p2) (by omega)
  have mp2 : ∀ S', Lc S S' → fX11_isPoint (gsi S' 54 0 0) a2 = some (gz (gib a2 X.np)) := fun S' q => m_isPoint (by rw [thr_at 33 (by decide), q.1 54 (by omega)]; exact p2) (by omega)
  by_cases hck : (gib a1 X.np && gib a2 X.np && gib a3 10000 && gib a4 10000) = true
  · simp only [Bool.and_eq_true] at hck
    obtain ⟨⟨⟨q1, q2⟩, q3⟩, q4⟩ := hck
    rw [q1] at xp1
    rw [q2] at xp2
    simp only [q1] at mp1
    simp only [q2] at mp2
    obtain ⟨a, ha, rfl⟩ := gib_ex q1 (by omega)
    obtain ⟨b, hb, rfl⟩ := gib_ex q2 (by omega)
    have la := hC.1.ld_lt a ha
    have lb := hC.1.ld_lt b hb
    obtain ⟨S12, d1, d2, d3⟩ := x_atDay (day := a3) hC w3
    have z12 : Lc S S12 := w2.lc.tr (Fr35.lc d2)
    obtain ⟨S16, e1, e2, e3⟩ := x_marks hC d3 (by rw [z12.1 7 (by omega)]; exact hC.nk.1) (show X.ld a < 12 by omega) (show X.ld b < 12 by omega)
    have z16 : Lc S S16 := z12.tr ⟨fun c hc => e2.1 c (by simp; omega), fun i _ => by rw [e2.2]⟩
    have hP : ∀ s, s < 1024 → X.pt a3 (X.ld a) (X.ld b) s = !(gMk S16 (1023 ^^^ s)) := fun s hs => by rw [CT.pt_iff hC.1 hs, e3 _ (xorlt (by decide) hs)]
    have tell := x_tell (S := S16) (P := X.pt a3 (X.ld a) (X.ld b)) hP (fun hz s hs => by
      unfold CT.pt at hz ⊢
      simp only [Bool.not_eq_false', gAny_iff, Bool.and_eq_true, decide_eq_true_eq] at hz ⊢
      obtain ⟨i, i1, i2, k, k1, k2, k3⟩ := hz
      refine ⟨i, i1, i2, k, k1, k2, ?_⟩
      have hx := xorlt (CT.fx_lt hC.1 (CT.hd_lt hC.1 i2)).1 (CT.fx_lt hC.1 (CT.hd_lt hC.1 k2)).1
      have : (X.fx i ^^^ X.fx k) &&& 1023 = X.fx i ^^^ X.fx k := by
        rw [show (1023 : Nat) = 2 ^ 10 - 1 from rfl, Nat.and_two_pow_sub_one_eq_mod]
        exact Nat.mod_eq_of_lt hx
      rw [this] at k3
      rw [k3]; exact Nat.zero_and s)
    obtain ⟨T10, T13, o, m, e, i1, i2, i3, i4⟩ := m_atDay (day := a3) hC (Or.inl rfl) (mf_of hC.2.2.2.1 z16)
    refine ⟨gFv (gFt (X.pt a3 (X.ld a) (X.ld b)) 1024), S16, T13, ?_, ?_, IV_rn (IV_thr (IV_lc h z16) 0) i3⟩
    · show fX10_apart S (nI a) (nI b) a3 a4 = _
      unfold fX10_apart
      rw [xp1, gbv_s, if_neg gzt0, xp2, gbv_s, if_neg gzt0, x_isDay, gbv_s, q3, if_neg gzt0, x_isDay, gbv_s, q4, if_neg gzt0, w1, gbd_s, d1, gbd_s, if_pos (gib_nI (show a < 12 by omega) (by decide)), if_pos (gib_nI (show b < 12 by omega) (by decide)), nI_clamp (show a < 2 ^ 31 by omega), nI_clamp (show b < 2 ^ 31 by omega), d3.1.lead ha, d3.1.lead hb, e1, gbd_s, tell, gbv_s]
    · show fX11_apart S16 (nI a) (nI b) a3 a4 = _
      unfold fX11_apart
      rw [glet_s, mp1 S16 z16, gbv_s, if_neg gzt0, mp2 S16 z16, gbv_s, if_neg gzt0, m_isDay, gbv_s, q3, if_neg gzt0, m_isDay, gbv_s, q4, if_neg gzt0, i1, gbd_s, i2, gbd_s, glet_s, glet_s, m_apart hC i4 ha hb]
  · have hck' : (gib a1 X.np && gib a2 X.np && gib a3 10000 && gib a4 10000) = false := by simpa using hck
    refine both_no h (-1) ?_ ?_
    · show fX10_apart S a1 a2 a3 a4 = _
      unfold fX10_apart
      rw [xp1, xp2, x_isDay, x_isDay]
      simp only [gbv_s, gz_0]
      cases h1 : gib a1 X.np
      · rw [if_pos rfl]
      cases h2 : gib a2 X.np
      · rw [if_neg (by decide), if_pos rfl]
      cases h3 : gib a3 10000
      · rw [if_neg (by decide), if_neg (by decide), if_pos rfl]
      cases h4 : gib a4 10000
      · rw [if_neg (by decide), if_neg (by decide), if_neg (by decide), if_pos rfl]
      rw [h1, h2, h3, h4] at hck'
      cases hck'
    · show fX11_apart S a1 a2 a3 a4 = _
      unfold fX11_apart
      rw [glet_s, mp1 S Lc.rf, mp2 S Lc.rf, m_isDay, m_isDay]
      simp only [gbv_s, gz_0]
      cases h1 : gib a1 X.np
      · rw [if_pos rfl]
      cases h2 : gib a2 X.np
      · rw [if_neg (by decide), if_pos rfl]
      cases h3 : gib a3 10000
      · rw [if_neg (by decide), if_neg (by decide), if_pos rfl]
      cases h4 : gib a4 10000
      · rw [if_neg (by decide), if_neg (by decide), if_neg (by decide), if_pos rfl]
      rw [h1, h2, h3, h4] at hck'
      cases hck'
end

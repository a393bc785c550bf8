/-! asked, binds, hangs -/
section
variable {S S' S1 S2 : GS} {X : CT}
theorem m_thereNo {a1 a2 day k wo : Int32} (hC : CTof X S k wo) (hF : MF X S1) (hz : (gib a1 X.nk && gib a2 X.np && gib day 10000 && gib k 10000) = false) : fX11_isThere S1 a1 a2 day k = some (0, S1) := by
  obtain ⟨k1, k2, k3⟩ := hC.nk
  obtain ⟨p1, p2, p3⟩ := hC.np
  have mk := m_isCase (S := S1) (a := a1) (hF.nk hC.1) (by omega)
  have mp := m_isPoint (S := S1) (a := a2) (hF.np hC.1) (by omega)
  unfold fX11_isThere
  rw [mk, mp, m_isDay, m_isDay]
  simp only [gbv_s, gz_0]
  cases h1 : gib a1 X.nk
  · rw [if_pos rfl]
  cases h2 : gib a2 X.np
  · rw [if_neg (by decide), if_pos rfl]
  cases h3 : gib day 10000
  · rw [if_neg (by decide), if_neg (by decide), if_pos rfl]
  cases h4 : gib k 10000
  · rw [if_neg (by decide), if_neg (by decide), if_neg (by decide), if_pos rfl]
  rw [h1, h2, h3, h4] at hz
  cases hz
theorem m_there {day k : Int32} {c p : Nat} (hC : CTof X S k (-1)) (hF : MF X S1) (hc : c < X.nk) (hp : p < X.np) (hd : gib day 10000 = true) (hk : gib k 10000 = true) : ∃ (S' : GS) (o : Nat → Nat) (m e : Nat), fX11_isThere S1 (nI c) (nI p) day k = some (gz (X.Td day c), S') ∧ Rn S1 S' ∧ MA X o m e day S' := by
  obtain ⟨k1, k2, k3⟩ := hC.nk
  obtain ⟨p1, p2, p3⟩ := hC.np
  have mk := m_isCase (S := S1) (a := nI c) (hF.nk hC.1) (by omega)
  have mp := m_isPoint (S := S1) (a := nI p) (hF.np hC.1) (by omega)
  rw [gib_nI hc (by omega)] at mk
  rw [gib_nI hp (by omega)] at mp
  obtain ⟨S9, S', o, m, e, f1, f2, f3, f4⟩ := m_atDay (day := day) hC (Or.inl rfl) hF
  refine ⟨S', o, m, e, ?_, f3, f4⟩
  unfold fX11_isThere
  rw [mk, mp, m_isDay, m_isDay, hd, hk]
  simp only [gbv_s]
  rw [if_neg gzt0, if_neg gzt0, if_neg gzt0, if_neg gzt0, f1, gbd_s, f2, gbd_s, if_pos (gib_nI (show c < 32 by omega) (by decide)), nI_clamp (by omega)]
  have he : e ≤ 32 := f4.2.2.2.2.2.2.2
  cases hs : X.sn c
  · rw [if_pos (f4.1.2.2.2.2.1 c hc hs)]
    have : X.Td day c = false := by unfold CT.Td; rw [hs]; rfl
    rw [this]; rfl
  · obtain ⟨i, i1, i2, i3⟩ := f4.2.2.2.2.2.1 c hs
    rw [i2, if_neg (nI_nm1 (by omega)), f4.2.2.1]
    simp only [nI_leI (show e < 2 ^ 31 by omega) (show i < 2 ^ 31 by omega)]
    by_cases ce : e ≤ i
    · rw [if_pos ce]
      have : X.Td day c = false := by
        cases h : X.Td day c
        · rfl
        · have := i3.mpr h; omega
      rw [this]; rfl
    · rw [if_neg ce, i3.mp (by omega)]; rfl
theorem x_there {day : Int32} {c : Nat} (hW : WA X day S) (hc : c < 32) : fX9_isThere S (nI c) = some (gz (X.Td day c)) := by
  unfold fX9_isThere
  rw [x_has _ hc, gbv_s, if_pos (gzb _), hW.2.2.1 c hc]
theorem x_num (b : Bool) : fX10_asNumber S (gz b) = some (gz b) := by cases b <;> rfl
theorem m_num (b : Bool) : gbv (fX11_is S (gz b)) (fun r => some (r.toInt32, S)) = some (gz b, S) := by cases b <;> rfl
theorem call_binds (h : IV S) (a1 a2 a3 a4 a5 a6 : Int32) : Both S (fun S => fX10_binds S a1 a2 a3 a4 a5 a6) (fun S => fX11_binds S a1 a2 a3 a4 a5 a6) := by
  obtain ⟨X, S9, hC, w1, w2, w3⟩ := ask_world h a6 (-1)
  obtain ⟨p1, p2, p3⟩ := hC.np
  obtain ⟨k1, k2, k3⟩ := hC.nk
  obtain ⟨c1, c2, c3⟩ := hC.nc
  have xp := x_isPoint (S := S) (a := a2) p1 (by omega)
  have xk := x_isCase (S := S) (a := a1) k1 (by omega)
  have xa := x_isAskable (S := S) (a := a3) (b := a4) (c := a5) (d := a6) c1 (by omega)
  have mc : ∀ S', Lc S S' → fX11_isCourt (gsi S' 54 0 0) a3 = some (gz (gib a3 X.nc)) := fun S' q => m_isCourt (by rw [thr_at 30 (by decide), q.1 54 (by omega)]; exact c2) (by omega)
  by_cases hck : (gib a1 X.nk && gib a2 X.np && gib a5 10000 && gib a6 10000 && gib a3 X.nc && gib a4 1024) = true
  · simp only [Bool.and_eq_true] at hck
    obtain ⟨⟨⟨⟨⟨q1, q2⟩, q5⟩, q6⟩, q3⟩, q4⟩ := hck
    rw [q1] at xk
    rw [q2] at xp
    rw [q3, q4, q5, q6] at xa
    simp only [q3] at mc
    obtain ⟨c, hc, rfl⟩ := gib_ex q1 (by omega)
    obtain ⟨p, hp, rfl⟩ := gib_ex q2 (by omega)
    obtain ⟨ct, hct, rfl⟩ := gib_ex q3 (by omega)
    have l := hC.1.ld_lt p hp
    obtain ⟨S12, d1, d2, d3⟩ := x_atDay (day := a5) hC w3
    have z12 : Lc S S12 := w2.lc.tr (Fr35.lc d2)
    have xs : fX10_binds S (nI c) (nI p) (nI ct) a4 a5 a6 = if gz (X.Td a5 c) = 0 then some (-1, S12) else gbd (fX9_doesBind S12 (nI c) (nI (X.ld p)) (nI ct) a4) fun r21 S22 => gbv (fX10_asNumber S22 r21) fun r24 => some (r24, S22) := by
      unfold fX10_binds
      rw [xk, gbv_s, if_neg gzt0, xp, gbv_s, if_neg gzt0, xa, gbv_s]
      simp only [Bool.and_self]
      rw [if_neg gzt0, w1, gbd_s, d1, gbd_s, x_there d3 (show c < 32 by omega), gbv_s, if_pos (gib_nI (show p < 12 by omega) (by decide)), nI_clamp (by omega), d3.1.lead hp]
    have ms : ∀ S', Lc S S' → ∃ (S10 : GS) (o : Nat → Nat) (m e : Nat), fX11_binds S' (nI c) (nI p) (nI ct) a4 a5 a6 = (if gz (X.Td a5 c) = 0 then some (-1, S10) else gbd (fX11_isBinding S10 (nI c) (nI (X.ld p)) (nI ct) a4 (nI e) a5) fun r14 S15 => gbv (fX11_is S15 r14) fun r17 => some (r17.toInt32, S15)) ∧ Rn (gsi S' 54 0 0) S10 ∧ MA X o m e a5 S10 := by
      intro S' hz
      obtain ⟨S10, o, m, e, f1, f2, f3⟩ := m_there (day := a5) hC (mf_of hC.2.2.2.1 hz) hc hp q5 q6
      refine ⟨S10, o, m, e, ?_, f2, f3⟩
      unfold fX11_binds
      rw [glet_s, mc S' hz, gbv_s, if_neg gzt0, m_isFacts, q4, gbv_s, if_neg gzt0, f1, gbd_s, if_pos (gib_nI (show p < 12 by omega) (by decide)), nI_clamp (by omega), f3.lead hp, f3.2.2.1]
    cases ht : X.Td a5 c
    · rw [ht] at xs
      obtain ⟨S10, o, m, e, f1, f2, f3⟩ := ms S12 z12
      rw [ht] at f1
      exact ⟨-1, S12, S10, xs.trans (if_pos gzf0), f1.trans (if_pos gzf0), IV_rn (IV_thr (IV_lc h z12) 0) f2⟩
    · rw [ht] at xs
      obtain ⟨S16, e1, e2⟩ := x_bind (F := a4) hC.1.D hC.2.1 d3.1.1.1 d3.2 hc (show X.ld p < 12 by omega) hct
      have z16 := z12.tr e2.lc
      obtain ⟨S10, o, m, e, f1, f2, f3⟩ := ms S16 z16
      rw [ht] at f1
      obtain ⟨S17, g1, g2⟩ := m_binding (F := a4) (day := a5) hC.1 hC.2.2.1 f3.1.1 f3.1.2.1 f3.2.2.2.2.2 hc (show X.ld p < 12 by omega) hct
      refine ⟨gz (gBd X.f X.cn X.ld X.nn (X.Td a5) (X.u (X.Td a5)) X.t0 a5 c (X.ld p) ct a4), S16, S17, ?_, ?_, IV_rn (IV_thr (IV_lc h z16) 0) (f2.tr g2.ms.rn)⟩
      · show fX10_binds S (nI c) (nI p) (nI ct) a4 a5 a6 = _
        rw [xs, if_neg gzt0, e1, gbd_s, x_num, gbv_s]
      · show fX11_binds S16 (nI c) (nI p) (nI ct) a4 a5 a6 = _
        rw [f1, if_neg gzt0, g1, gbd_s, m_num]
  · have hck' : (gib a1 X.nk && gib a2 X.np && gib a5 10000 && gib a6 10000 && gib a3 X.nc && gib a4 1024) = false := by simpa using hck
    refine both_no h (-1) ?_ ?_
    · show fX10_binds S a1 a2 a3 a4 a5 a6 = _
      unfold fX10_binds
      rw [xk, gbv_s, xp, xa]
      simp only [gbv_s, gz_0]
      cases h1 : gib a1 X.nk
      · rw [if_pos rfl]
      cases h2 : gib a2 X.np
      · rw [if_neg (by decide), if_pos rfl]
      rw [if_neg (by decide), if_neg (by decide), if_pos]
      rw [h1, h2] at hck'
      clear hck xa mc
      revert hck'
      cases gib a3 X.nc <;> cases gib a4 1024 <;> cases gib a5 10000 <;> cases gib a6 10000 <;> simp
    · show fX11_binds S a1 a2 a3 a4 a5 a6 = _
      unfold fX11_binds
      rw [glet_s, mc S Lc.rf, m_isFacts]
      simp only [gbv_s, gz_0]
      cases h3 : gib a3 X.nc
      · rw [if_pos rfl]
      cases h4 : gib a4 1024
      · rw [if_neg (by decide), if_pos rfl]
      rw [if_neg (by decide), if_neg (by decide), m_thereNo hC (mf_of hC.2.2.2.1 Lc.rf) (by rw [h3, h4] at hck'; simpa using hck'), gbd_s, if_pos rfl]
theorem call_asked (h : IV S) (a1 a2 a3 a4 a5 : Int32) : Both S (fun S => fX10_asked S a1 a2 a3 a4 a5) (fun S => fX11_asked S a1 a2 a3 a4 a5) := by
  obtain ⟨X, S9, hC, w1, w2, w3⟩ := ask_world h a5 (-1)
  obtain ⟨p1, p2, p3⟩ := hC.np
  obtain ⟨k1, k2, k3⟩ := hC.nk
  have xp := x_isPoint (S := S) (a := a2) p1 (by omega)
  have xk := x_isCase (S := S) (a := a1) k1 (by omega)
  by_cases hw : a3 < 0
  · refine both_no h (-1) ?_ ?_
    · show fX10_asked S a1 a2 a3 a4 a5 = _
      unfold fX10_asked
      rw [xk, gbv_s, xp]
      simp only [gbv_s, gz_0]
      cases h1 : gib a1 X.nk
      · rw [if_pos rfl]
      cases h2 : gib a2 X.np
      · rw [if_neg (by decide), if_pos rfl]
      rw [if_neg (by decide), if_neg (by decide), if_pos hw]
    · show fX11_asked S a1 a2 a3 a4 a5 = _
      unfold fX11_asked
      rw [glet_s, if_pos hw]
  by_cases hw6 : 6 < a3
  · refine both_no h (-1) ?_ ?_
    · show fX10_asked S a1 a2 a3 a4 a5 = _
      unfold fX10_asked
      rw [xk, gbv_s, xp]
      simp only [gbv_s, gz_0]
      cases h1 : gib a1 X.nk
      · rw [if_pos rfl]
      cases h2 : gib a2 X.np
      · rw [if_neg (by decide), if_pos rfl]
      rw [if_neg (by decide), if_neg (by decide), if_neg hw, if_pos hw6]
    · show fX11_asked S a1 a2 a3 a4 a5 = _
      unfold fX11_asked
      rw [glet_s, if_neg hw, if_pos hw6]
  by_cases hck : (gib a1 X.nk && gib a2 X.np && gib a4 10000 && gib a5 10000) = true
  · simp only [Bool.and_eq_true] at hck
    obtain ⟨⟨⟨q1, q2⟩, q4⟩, q5⟩ := hck
    rw [q1] at xk
    rw [q2] at xp
    obtain ⟨c, hc, rfl⟩ := gib_ex q1 (by omega)
    obtain ⟨p, hp, rfl⟩ := gib_ex q2 (by omega)
    have l := hC.1.ld_lt p hp
    have l12 : X.ld p < 12 := by omega
    obtain ⟨S12, d1, d2, d3⟩ := x_atDay (day := a4) hC w3
    have z12 : Lc S S12 := w2.lc.tr (Fr35.lc d2)
    have xs : fX10_asked S (nI c) (nI p) a3 a4 a5 = if gz (X.Td a4 c) = 0 then some (-1, S12) else gbd (fX10_tellOf S12 (nI c) (nI (X.ld p)) a3) fun r26 S27 => some (r26, S27) := by
      unfold fX10_asked
      rw [xk, gbv_s, if_neg gzt0, xp, gbv_s, if_neg gzt0, if_neg hw, if_neg hw6, x_isDay, gbv_s, q4, if_neg gzt0, x_isDay, gbv_s, q5, if_neg gzt0, w1, gbd_s, d1, gbd_s, x_there d3 (show c < 32 by omega), gbv_s, if_pos (gib_nI (show p < 12 by omega) (by decide)), nI_clamp (by omega), d3.1.lead hp]
    cases ht : X.Td a4 c
    · rw [ht] at xs
      obtain ⟨S10, o, m, e, f1, f2, f3⟩ := m_there (day := a4) hC (mf_of hC.2.2.2.1 z12) hc hp q4 q5
      refine ⟨-1, S12, S10, xs.trans (if_pos gzf0), ?_, IV_rn (IV_thr (IV_lc h z12) 0) f2⟩
      show fX11_asked S12 (nI c) (nI p) a3 a4 a5 = _
      unfold fX11_asked
      rw [glet_s, if_neg hw, if_neg hw6, f1, gbd_s, ht, if_pos gzf0]
    · rw [ht, if_neg gzt0] at xs
      have g32 : gib (nI c) 32 = true := gib_nI (by omega) (by decide)
      have ec : (nI c).toNatClampNeg = c := nI_clamp (by omega)
      have fin : ∀ v S16, Lc S S16 → fX10_tellOf S12 (nI c) (nI (X.ld p)) a3 = some (v, S16) → (∀ (S6 : GS) (o : Nat → Nat) (m e : Nat), MA X o m e a4 S6 → ∃ S7, Ms S6 S7 ∧ (if a3 = (0 : Int32) then (if gib (nI c) 32 = true then gbv (fX11_votes S6 (nI c) (nI (X.ld p)) (S6.1 69 (nI c).toNatClampNeg)) fun r13 => (some (r13, S6)) else none) else (if a3 = (1 : Int32) then (if gib (nI c) 32 = true then gbv (fX11_isHeld S6 (nI c) (nI (X.ld p)) (S6.1 69 (nI c).toNatClampNeg)) fun r17 => gbv (fX11_is S6 r17) fun r19 => (some (((r19).toInt32), S6)) else none) else (if a3 = (2 : Int32) then gbd (fX11_isOverruled S6 (nI c) (nI (X.ld p)) (S6.1 54 58)) fun r22 S23 => gbv (fX11_is S23 r22) fun r25 => (some (((r25).toInt32), S23)) else (if a3 = (3 : Int32) then gbv (fX11_doubts S6 (nI c) (nI (X.ld p)) (S6.1 54 58)) fun r28 => (some (r28, S6)) else (if a3 = (4 : Int32) then gbv (fX11_isTaken S6 (nI c) (nI (X.ld p)) a4) fun r31 => gbv (fX11_is S6 r31) fun r33 => (some (((r33).toInt32), S6)) else (if a3 = (5 : Int32) then (if gib (nI c) 32 = true then (some ((((S6.1 83 (nI c).toNatClampNeg) >>> (nI (X.ld p) &&& 31)) &&& (1 : Int32)), S6)) else none) else (if gib (nI c) 32 = true then gbv (fX11_is S6 (S6.1 85 (nI c).toNatClampNeg)) fun r38 => (some (((r38).toInt32), S6)) else none))))))) = some (v, S7)) → Both S (fun S => fX10_asked S (nI c) (nI p) a3 a4 a5) (fun S => fX11_asked S (nI c) (nI p) a3 a4 a5) := by
        intro v S16 z16 ex hm
        obtain ⟨S10, o, m, e, f1, f2, f3⟩ := m_there (day := a4) hC (mf_of hC.2.2.2.1 z16) hc hp q4 q5
        obtain ⟨S17, g1, g2⟩ := hm S10 o m e f3
        refine ⟨v, S16, S17, ?_, ?_, IV_rn (IV_thr (IV_lc h z16) 0) (f2.tr g1.rn)⟩
        · show fX10_asked S (nI c) (nI p) a3 a4 a5 = _
          rw [xs, ex, gbd_s]
        · show fX11_asked S16 (nI c) (nI p) a3 a4 a5 = _
          unfold fX11_asked
          rw [glet_s, if_neg hw, if_neg hw6, f1, gbd_s, ht, if_neg gzt0, if_pos (gib_nI (show p < 12 by omega) (by decide)), nI_clamp (show p < 2 ^ 31 by omega), f3.lead hp, glet_s]
          exact g2
      have kz := d3.1.1
      have D := hC.1.D
      have r11 : S12.1 11 c = X.f 11 c := by rw [kz.1.1.1 11 (by decide)]
      have r69 : ∀ S6, MF X S6 → S6.1 69 c = X.f 11 c := fun S6 hF => by rw [hF.1 69 (by decide) (by decide)]; exact (D.2.2.2.1.2.2.2.1 c hc).2.2.2.1
      have hTn : ∀ d, X.Td a4 d = true → d < X.nk := fun d hd => CT.Td_lt hC.1 hd
      by_cases v0 : a3 = 0
      · refine fin (nI (gVt X.f X.cn X.ld X.nn c (X.ld p) (X.f 11 c))) S12 z12 ?_ (fun S6 o m e hA => ⟨S6, Ms.rf, ?_⟩)
        · unfold fX10_tellOf
          rw [if_pos g32, ec, r11, glet_s, if_pos v0, x_votes D kz.1.1 hc (by omega), gbv_s]
        · rw [if_pos v0, if_pos g32, ec, r69 S6 hA.1.1, m_votes hC.1 hA.1.1 hA.1.2.1 hc l12, gbv_s]
      by_cases v1 : a3 = 1
      · refine fin (gz (gHe X.f X.cn X.ld X.nn c (X.ld p) (X.f 11 c))) S12 z12 ?_ (fun S6 o m e hA => ⟨S6, Ms.rf, ?_⟩)
        · unfold fX10_tellOf
          rw [if_pos g32, ec, r11, glet_s, if_neg v0, if_pos v1, x_held D kz.1.1 hc (by omega), gbv_s, x_num, gbv_s]
        · rw [if_neg v0, if_pos v1, if_pos g32, ec, r69 S6 hA.1.1, m_held hC.1 hA.1.1 hA.1.2.1 hc l12, gbv_s, m_num]
      by_cases v2 : a3 = 2
      · obtain ⟨S16, b1, b2⟩ := x_over D hC.2.1 kz.1 d3.2 hTn hc l12
        refine fin (gz (gOv X.f X.cn X.ld X.nn (X.Td a4) (X.u (X.Td a4)) X.t1 c (X.ld p))) S16 (z12.tr b2.lc) ?_ (fun S6 o m e hA => ?_)
        · unfold fX10_tellOf
          rw [if_pos g32, ec, r11, glet_s, if_neg v0, if_neg v1, if_pos v2, b1, gbd_s, x_num, gbv_s]
        · obtain ⟨S7, g1, g2⟩ := m_over hC.1 hC.2.2.1 hA.1.1 hA.1.2.1 hA.2.2.2.2.2 hc l12
          refine ⟨S7, g2.ms, ?_⟩
          rw [if_neg v0, if_neg v1, if_pos v2, hA.2.2.1, g1, gbd_s, m_num]
      by_cases v3 : a3 = 3
      · refine fin (nI (gDb X.f X.cn X.ld X.nn (X.Td a4) (X.u (X.Td a4)) c (X.ld p))) S12 z12 ?_ (fun S6 o m e hA => ⟨S6, Ms.rf, ?_⟩)
        · unfold fX10_tellOf
          rw [if_pos g32, ec, r11, glet_s, if_neg v0, if_neg v1, if_neg v2, if_pos v3, x_doubts D kz.1.1 d3.2 (by omega) l12, gbv_s]
        · rw [if_neg v0, if_neg v1, if_neg v2, if_pos v3, hA.2.2.1, m_doubts hC.1 hA.1.1 hA.1.2.1 hA.2.2.2.2.2 hc l12, gbv_s]
      by_cases v4 : a3 = 4
      · refine fin (gz (gTk X.f X.cn X.ld X.nn c (X.ld p) a4)) S12 z12 ?_ (fun S6 o m e hA => ⟨S6, Ms.rf, ?_⟩)
        · unfold fX10_tellOf
          rw [if_pos g32, ec, r11, glet_s, if_neg v0, if_neg v1, if_neg v2, if_neg v3, if_pos v4, x_taken D kz.1.1 d3.2.1 hc (by omega), gbv_s, x_num, gbv_s]
        · rw [if_neg v0, if_neg v1, if_neg v2, if_neg v3, if_pos v4, m_taken hC.1 hA.1.1 hA.1.2.1 hc l12, gbv_s, m_num]
      by_cases v5 : a3 = 5
      · refine fin (gz (X.bb c (X.ld p))) S12 z12 ?_ (fun S6 o m e hA => ⟨S6, Ms.rf, ?_⟩)
        · unfold fX10_tellOf
          rw [if_pos g32, ec, r11, glet_s, if_neg v0, if_neg v1, if_neg v2, if_neg v3, if_neg v4, if_pos v5, x_has _ (show X.ld p < 32 by omega), gbv_s, d3.hB c ht _ l12, x_num, gbv_s]
        · rw [if_neg v0, if_neg v1, if_neg v2, if_neg v3, if_neg v4, if_pos v5, if_pos g32, ec, b_get _ (show X.ld p < 32 by omega), hA.bl ht l12]
          cases X.bb c (X.ld p) <;> rfl
      · refine fin (gz (X.u (X.Td a4) c)) S12 z12 ?_ (fun S6 o m e hA => ⟨S6, Ms.rf, ?_⟩)
        · unfold fX10_tellOf
          rw [if_pos g32, ec, r11, glet_s, if_neg v0, if_neg v1, if_neg v2, if_neg v3, if_neg v4, if_neg v5, x_has _ (show c < 32 by omega), gbv_s, d3.2.2.2 c (by omega), x_num, gbv_s]
        · rw [if_neg v0, if_neg v1, if_neg v2, if_neg v3, if_neg v4, if_neg v5, if_pos g32, ec, (hA.2.2.2.2.2.2.1 c ht).2, m_num]
  · have hck' : (gib a1 X.nk && gib a2 X.np && gib a4 10000 && gib a5 10000) = false := by simpa using hck
    refine both_no h (-1) ?_ ?_
    · show fX10_asked S a1 a2 a3 a4 a5 = _
      unfold fX10_asked
      rw [xk, gbv_s, xp, x_isDay, x_isDay]
      simp only [gbv_s, gz_0]
      cases h1 : gib a1 X.nk
      · rw [if_pos rfl]
      cases h2 : gib a2 X.np
      · rw [if_neg (by decide), if_pos rfl]
      rw [if_neg (by decide), if_neg (by decide), if_neg hw, if_neg hw6]
      cases h4 : gib a4 10000
      · rw [if_pos rfl]
      cases h5 : gib a5 10000
      · rw [if_neg (by decide), if_pos rfl]
      rw [h1, h2, h4, h5] at hck'
      cases hck'
    · show fX11_asked S a1 a2 a3 a4 a5 = _
      unfold fX11_asked
      rw [glet_s, if_neg hw, if_neg hw6, m_thereNo hC (mf_of hC.2.2.2.1 Lc.rf) hck', gbd_s, if_pos rfl]
end

/-! the calls that ask: stand, lead, asked, binds, forgotten, joined -/
/-- what a whole call of the class leaves alone -/
def Lc (S S' : GS) : Prop := (∀ c, c < 35 ∨ 54 ≤ c → S'.1 c = S.1 c) ∧ ∀ i, i ≠ 2 → S'.2.2 i = S.2.2 i
theorem gzf0 : gz false = 0 := rfl
theorem gzt0 : ¬ gz true = 0 := by decide
section
variable {S S' S1 S2 : GS} {X : CT}
theorem Lc.rf : Lc S S := ⟨fun _ _ => rfl, fun _ _ => rfl⟩
theorem Lc.tr (h : Lc S S1) (h2 : Lc S1 S2) : Lc S S2 := ⟨fun c a => (h2.1 c a).trans (h.1 c a), fun i hi => (h2.2 i hi).trans (h.2 i hi)⟩
theorem Lz.lc (h : Lz S S1) : Lc S S1 := ⟨fun c a => h.1 c (by omega), h.2⟩
theorem Lw.lc (h : Lw S S1) : Lc S S1 := h.lz.lc
theorem LE.lc (h : LE S S1) : Lc S S1 := h.lw.lc
theorem Fr35.lc (h : Fr [35] S S1) : Lc S S1 := (h.lw (by simp)).lc
theorem IV_lc (h : IV S) (e : Lc S S') : IV S' := by
  refine IV_scr h (fun k j hi => ?_) (e.2 0 (by decide)) (e.2 1 (by decide))
  rw [e.1 k]
  simp only [irel, Bool.or_eq_true, Bool.and_eq_true, decide_eq_true_eq, beq_iff_eq] at hi
  omega
theorem mf_of (hf : X.f = S.1) (hz : Lc S S') : MF X (gsi S' 54 0 0) := by
  refine ⟨fun c a b => ?_, fun j a => ?_⟩
  · rw [gsi_ne (by omega), hz.1 c (by omega), hf]
  · rw [gsi_r, if_neg (by rintro ⟨-, rfl⟩; cases a), hz.1 54 (by omega), hf]
theorem both_no (h : IV S) {x m : GS → Option (Int32 × GS)} (v : Int32) (hx : x S = some (v, S)) (hm : m S = some (v, gsi S 54 0 0)) : Both S x m := ⟨v, S, gsi S 54 0 0, hx, hm, IV_thr h 0⟩
/-- a context is what is told in a state, seen on a day, but one case -/
def CTof (X : CT) (S : GS) (k wo : Int32) : Prop := X.ok ∧ X.rx ∧ X.mx ∧ X.f = S.1 ∧ X.cn = gCn X.f k wo X.nn ∧ X.ld = gLd X.f X.cn X.nn ∧ X.sn = gSn X.f k wo X.nk
theorem ask_world (h : IV S) (k wo : Int32) : ∃ X S9, CTof X S k wo ∧ fX9_see S (S.2.2 0) k wo = some ((), S9) ∧ Lz S S9 ∧ WD X S9 := by
  obtain ⟨td, nt, nc, np, nk, nn, ht, hc, hp, hk, hn, hr, hf⟩ := id h
  obtain ⟨t0, t1, en, q1, q2⟩ := rules_ex h
  have hD : DBx S.1 td nc np nk nn := ⟨ht.2.2.1, hc, hp, hk, hn⟩
  obtain ⟨S9, w1, w2, w3⟩ := x_world (k := k) (wo := wo) hD q1
  exact ⟨ctx S.1 k wo td nc np nk nn (S.2.2 0) t0 t1 en, S9, ⟨ctx_ok hD, q1, q2, rfl, rfl, rfl, rfl⟩, w1, w2, w3⟩
theorem CTof.np {k wo : Int32} (h : CTof X S k wo) : S.1 5 0 = nI X.np ∧ S.1 54 33 = nI X.np ∧ X.np ≤ 12 := by
  obtain ⟨h1, -, -, h2, -⟩ := h
  rw [← h2]; exact ⟨h1.D.2.2.1.1, h1.D.2.2.1.2.1, h1.D.2.2.1.2.2.1⟩
theorem CTof.nk {k wo : Int32} (h : CTof X S k wo) : S.1 7 0 = nI X.nk ∧ S.1 54 35 = nI X.nk ∧ X.nk ≤ 32 := by
  obtain ⟨h1, -, -, h2, -⟩ := h
  rw [← h2]; exact ⟨h1.D.2.2.2.1.1, h1.D.2.2.2.1.2.1, h1.D.2.2.2.1.2.2.1⟩
theorem CTof.nc {k wo : Int32} (h : CTof X S k wo) : S.1 2 0 = nI X.nc ∧ S.1 54 30 = nI X.nc ∧ X.nc ≤ 6 := by
  obtain ⟨h1, -, -, h2, -⟩ := h
  rw [← h2]; exact ⟨h1.D.2.1.1, h1.D.2.1.2.1, h1.D.2.1.2.2.1⟩
/-- the class at a day -/
def WA (X : CT) (day : Int32) (S : GS) : Prop := WD X S ∧ TX (X.Td day) (X.u (X.Td day)) day S
theorem WA.hB {day : Int32} (h : WA X day S) : ∀ d, X.Td day d = true → ∀ p, p < 12 → bt (S.1 48 d) p = X.bb d p := fun d hd p hp => by
  unfold CT.Td at hd
  simp only [Bool.and_eq_true] at hd
  exact (h.1.2 d hd.1).1 p hp
theorem WA.le {day : Int32} (h : WA X day S) (e : LE S S') : WA X day S' := ⟨⟨h.1.1.le e, fun c hc => by rw [e.1]; exact h.1.2 c hc⟩, h.2.le e⟩
theorem x_atDay {k wo day : Int32} (hC : CTof X S k wo) (hW : WD X S1) : ∃ S', fX9_goToDay S1 day = some ((), S') ∧ Fr [35] S1 S' ∧ WA X day S' := by
  obtain ⟨S', a1, a2, a3⟩ := x_goToDay (day := day) hC.1 hW.1
  exact ⟨S', a1, a2, ⟨hW.1.lw (a2.lw (by simp)), fun c hc => by rw [a2.at 48 (by decide), a2.at 49 (by decide)]; exact hW.2 c hc⟩, a3⟩
theorem m_world {k wo : Int32} (hC : CTof X S k wo) (hwo : wo = -1 ∨ gib wo X.nk = true) (hF : MF X S1) : ∃ (S' : GS) (o : Nat → Nat) (m : Nat), fX11_knows S1 k wo = some ((), S') ∧ Rn S1 S' ∧ MD X o m S' :=
  m_knows hC.1 hC.2.2.1 hF hC.2.2.2.2.1 hC.2.2.2.2.2.1 hC.2.2.2.2.2.2 hwo
theorem m_atDay {k wo day : Int32} (hC : CTof X S k wo) (hwo : wo = -1 ∨ gib wo X.nk = true) (hF : MF X S1) : ∃ (S9 S' : GS) (o : Nat → Nat) (m e : Nat), fX11_knows S1 k wo = some ((), S9) ∧ fX11_asOf S9 day = some ((), S') ∧ Rn S1 S' ∧ MA X o m e day S' := by
  obtain ⟨S9, o, m, a1, a2, a3⟩ := m_world hC hwo hF
  obtain ⟨S', e, b1, b2, b3⟩ := m_asOf (day := day) hC.1 a3
  exact ⟨S9, S', o, m, e, a1, b1, a2.tr b2, b3⟩
theorem thr_at (j : Nat) (hj : j ≠ 0) : (gsi S 54 0 0).1 54 j = S.1 54 j := by rw [gsi_r, if_neg (by rintro ⟨-, z⟩; exact hj z)]
theorem MA.lead {o : Nat → Nat} {m e : Nat} {day : Int32} (h : MA X o m e day S) {p : Nat} (hp : p < X.np) : S.1 79 p = nI (X.ld p) := h.1.2.1.2.1 p hp
theorem WD.lead (h : WD X S) {p : Nat} (hp : p < X.np) : S.1 37 p = nI (X.ld p) := (h.1.1.1.2.1 p hp).1
theorem call_stand (h : IV S) (a1 a2 a3 a4 a5 : Int32) : Both S (fun S => fX10_stand S a1 a2 a3 a4 a5) (fun S => fX11_stand S a1 a2 a3 a4 a5) := by
  obtain ⟨X, S9, hC, w1, w2, w3⟩ := ask_world h a5 (-1)
  obtain ⟨p1, p2, p3⟩ := hC.np
  obtain ⟨c1, c2, c3⟩ := hC.nc
  have xp := x_isPoint (S := S) (a := a1) p1 (by omega)
  have xa := x_isAskable (S := S) (a := a2) (b := a3) (c := a4) (d := a5) c1 (by omega)
  have mp : ∀ S', Lc S S' → fX11_isPoint (gsi S' 54 0 0) a1 = some (gz (gib a1 X.np)) := fun S' q => m_isPoint (by rw [thr_at 33 (by decide), q.1 54 (by omega)]; exact p2) (by omega)
  have ma : ∀ S', Lc S S' → fX11_isAsked (gsi S' 54 0 0) a2 a3 a4 a5 = some (gz (gib a2 X.nc && gib a3 1024 && gib a4 10000 && gib a5 10000)) := fun S' q => m_isAsked (by rw [thr_at 30 (by decide), q.1 54 (by omega)]; exact c2) (by omega)
  cases hp : gib a1 X.np
  · refine both_no h (-1) ?_ ?_
    · show fX10_stand S a1 a2 a3 a4 a5 = _
      unfold fX10_stand
      rw [xp, gbv_s, hp, if_pos gzf0]
    · show fX11_stand S a1 a2 a3 a4 a5 = _
      unfold fX11_stand
      rw [glet_s, mp S Lc.rf, gbv_s, hp, if_pos gzf0]
  cases ha : (gib a2 X.nc && gib a3 1024 && gib a4 10000 && gib a5 10000)
  · refine both_no h (-1) ?_ ?_
    · show fX10_stand S a1 a2 a3 a4 a5 = _
      unfold fX10_stand
      rw [xp, gbv_s, hp, if_neg gzt0, xa, gbv_s, ha, if_pos gzf0]
    · show fX11_stand S a1 a2 a3 a4 a5 = _
      unfold fX11_stand
      rw [glet_s, mp S Lc.rf, gbv_s, hp, if_neg gzt0, ma S Lc.rf, gbv_s, ha, if_pos gzf0]
  simp only [Bool.and_eq_true] at ha
  obtain ⟨p, hp1, rfl⟩ := gib_ex hp (by omega)
  obtain ⟨ct, hct, rfl⟩ := gib_ex ha.1.1.1 (by omega)
  have l := hC.1.ld_lt p hp1
  obtain ⟨S12, d1, d2, d3⟩ := x_atDay (day := a4) hC w3
  obtain ⟨S16, e1, e2⟩ := x_standOf (B := X.bb) (F := a3) hC.1 hC.2.1 d3.1.1 d3.2 (fun d hd => CT.Td_lt hC.1 hd) d3.hB (show X.ld p < 12 by omega) hct
  have z16 : Lc S S16 := (w2.lc.tr (Fr35.lc d2)).tr e2.lc
  obtain ⟨S10, S13, o, m, e, f1, f2, f3, f4⟩ := m_atDay (day := a4) hC (Or.inl rfl) (mf_of hC.2.2.2.1 z16)
  obtain ⟨S17, L, g1, g2, -, -⟩ := m_standOf (F := a3) hC.1 hC.2.2.1 f4 (show X.ld p < 12 by omega) hct
  refine ⟨nI (X.st (X.Td a4) X.bb a4 (X.ld p) ct a3), S16, S17, ?_, ?_, IV_rn (IV_thr (IV_lc h z16) 0) (f3.tr g2.rn)⟩
  · show fX10_stand S (nI p) (nI ct) a3 a4 a5 = _
    unfold fX10_stand
    rw [xp, gbv_s, hp, if_neg gzt0, xa, gbv_s]
    simp only [ha.1.1.1, ha.1.1.2, ha.1.2, ha.2, Bool.and_self]
    rw [if_neg gzt0, w1, gbd_s, d1, gbd_s, if_pos (gib_nI (show p < 12 by omega) (by decide)), nI_clamp (by omega), d3.1.lead hp1, e1, gbd_s]
  · show fX11_stand S16 (nI p) (nI ct) a3 a4 a5 = _
    unfold fX11_stand
    rw [glet_s, mp S16 z16, gbv_s, hp, if_neg gzt0, ma S16 z16, gbv_s]
    simp only [ha.1.1.1, ha.1.1.2, ha.1.2, ha.2, Bool.and_self]
    rw [if_neg gzt0, f1, gbd_s, f2, gbd_s, if_pos (gib_nI (show p < 12 by omega) (by decide)), nI_clamp (by omega), f4.lead hp1, g1, gbd_s]
theorem call_lead (h : IV S) (a1 a2 a3 a4 a5 : Int32) : Both S (fun S => fX10_lead S a1 a2 a3 a4 a5) (fun S => fX11_lead S a1 a2 a3 a4 a5) := by
  obtain ⟨X, S9, hC, w1, w2, w3⟩ := ask_world h a5 (-1)
  obtain ⟨p1, p2, p3⟩ := hC.np
  obtain ⟨c1, c2, c3⟩ := hC.nc
  have xp := x_isPoint (S := S) (a := a1) p1 (by omega)
  have xa := x_isAskable (S := S) (a := a2) (b := a3) (c := a4) (d := a5) c1 (by omega)
  have mp : ∀ S', Lc S S' → fX11_isPoint (gsi S' 54 0 0) a1 = some (gz (gib a1 X.np)) := fun S' q => m_isPoint (by rw [thr_at 33 (by decide), q.1 54 (by omega)]; exact p2) (by omega)
  have ma : ∀ S', Lc S S' → fX11_isAsked (gsi S' 54 0 0) a2 a3 a4 a5 = some (gz (gib a2 X.nc && gib a3 1024 && gib a4 10000 && gib a5 10000)) := fun S' q => m_isAsked (by rw [thr_at 30 (by decide), q.1 54 (by omega)]; exact c2) (by omega)
  cases hp : gib a1 X.np
  · refine both_no h (-1) ?_ ?_
    · show fX10_lead S a1 a2 a3 a4 a5 = _
      unfold fX10_lead
      rw [xp, gbv_s, hp, if_pos gzf0]
    · show fX11_lead S a1 a2 a3 a4 a5 = _
      unfold fX11_lead
      rw [glet_s, mp S Lc.rf, gbv_s, hp, if_pos gzf0]
  cases ha : (gib a2 X.nc && gib a3 1024 && gib a4 10000 && gib a5 10000)
  · refine both_no h (-1) ?_ ?_
    · show fX10_lead S a1 a2 a3 a4 a5 = _
      unfold fX10_lead
      rw [xp, gbv_s, hp, if_neg gzt0, xa, gbv_s, ha, if_pos gzf0]
    · show fX11_lead S a1 a2 a3 a4 a5 = _
      unfold fX11_lead
      rw [glet_s, mp S Lc.rf, gbv_s, hp, if_neg gzt0, ma S Lc.rf, gbv_s, ha, if_pos gzf0]
  simp only [Bool.and_eq_true] at ha
  obtain ⟨p, hp1, rfl⟩ := gib_ex hp (by omega)
  obtain ⟨ct, hct, rfl⟩ := gib_ex ha.1.1.1 (by omega)
  have l := hC.1.ld_lt p hp1
  obtain ⟨S12, d1, d2, d3⟩ := x_atDay (day := a4) hC w3
  obtain ⟨L, S16, e1, e2, e3⟩ := x_leaderOf (B := X.bb) (F := a3) hC.1 hC.2.1 d3.1.1 d3.2 (fun d hd => CT.Td_lt hC.1 hd) d3.hB (show X.ld p < 12 by omega) hct
  have z16 : Lc S S16 := (w2.lc.tr (Fr35.lc d2)).tr e2.lc
  obtain ⟨S10, S13, o, m, e, f1, f2, f3, f4⟩ := m_atDay (day := a4) hC (Or.inl rfl) (mf_of hC.2.2.2.1 z16)
  obtain ⟨S17, L', g1, g2, g3, g4⟩ := m_standOf (F := a3) hC.1 hC.2.2.1 f4 (show X.ld p < 12 by omega) hct
  have hL : L' = L := by
    by_cases cl : gLa X.f X.cn X.ld X.nn (X.ld p) a4 = true
    · rw [if_pos cl] at e3 g4; rw [e3, g4]
    · rw [if_neg cl] at e3 g4; exact gIsL_one g4 e3
  refine ⟨L, S16, S17, ?_, ?_, IV_rn (IV_thr (IV_lc h z16) 0) (f3.tr g2.rn)⟩
  · show fX10_lead S (nI p) (nI ct) a3 a4 a5 = _
    unfold fX10_lead
    rw [xp, gbv_s, hp, if_neg gzt0, xa, gbv_s]
    simp only [ha.1.1.1, ha.1.1.2, ha.1.2, ha.2, Bool.and_self]
    rw [if_neg gzt0, w1, gbd_s, d1, gbd_s, if_pos (gib_nI (show p < 12 by omega) (by decide)), nI_clamp (by omega), d3.1.lead hp1, e1, gbd_s]
  · show fX11_lead S16 (nI p) (nI ct) a3 a4 a5 = _
    unfold fX11_lead
    rw [glet_s, mp S16 z16, gbv_s, hp, if_neg gzt0, ma S16 z16, gbv_s]
    simp only [ha.1.1.1, ha.1.1.2, ha.1.2, ha.2, Bool.and_self]
    rw [if_neg gzt0, f1, gbd_s, f2, gbd_s, if_pos (gib_nI (show p < 12 by omega) (by decide)), nI_clamp (by omega), f4.lead hp1, g1, gbd_s, g3, hL]
theorem call_forgotten (h : IV S) (a1 a2 : Int32) : Both S (fun S => fX10_forgotten S a1 a2) (fun S => fX11_forgotten S a1 a2) := by
  obtain ⟨X, S9, hC, w1, w2, w3⟩ := ask_world h a2 (-1)
  obtain ⟨k1, k2, k3⟩ := hC.nk
  have xk := x_isCase (S := S) (a := a1) k1 (by omega)
  have mk : ∀ S', Lc S S' → fX11_isCase (gsi S' 54 0 0) a1 = some (gz (gib a1 X.nk)) := fun S' q => m_isCase (by rw [thr_at 35 (by decide), q.1 54 (by omega)]; exact k2) (by omega)
  cases hk : gib a1 X.nk
  · refine both_no h 0 ?_ ?_
    · show fX10_forgotten S a1 a2 = _
      unfold fX10_forgotten
      rw [xk, gbv_s, hk, if_pos gzf0]
    · show fX11_forgotten S a1 a2 = _
      unfold fX11_forgotten
      rw [glet_s, mk S Lc.rf, gbv_s, hk, if_pos gzf0]
  cases hd : gib a2 10000
  · refine both_no h 0 ?_ ?_
    · show fX10_forgotten S a1 a2 = _
      unfold fX10_forgotten
      rw [xk, gbv_s, hk, if_neg gzt0, x_isDay, gbv_s, hd, if_pos gzf0]
    · show fX11_forgotten S a1 a2 = _
      unfold fX11_forgotten
      rw [glet_s, mk S Lc.rf, gbv_s, hk, if_neg gzt0, m_isDay, gbv_s, hd, if_pos gzf0]
  obtain ⟨c, hc1, rfl⟩ := gib_ex hk (by omega)
  obtain ⟨S10, o, m, f1, f2, f3⟩ := m_world hC (Or.inl rfl) (mf_of hC.2.2.2.1 w2.lc)
  have iv := IV_rn (IV_thr (IV_lc h w2.lc) 0) f2
  cases hs : X.sn c
  · refine ⟨0, S9, S10, ?_, ?_, iv⟩
    · show fX10_forgotten S (nI c) a2 = _
      unfold fX10_forgotten
      rw [xk, gbv_s, hk, if_neg gzt0, x_isDay, gbv_s, hd, if_neg gzt0, w1, gbd_s, x_sees (by omega), gbv_s, w3.1.2.1 c (by omega), hs, if_pos gzf0]
    · show fX11_forgotten S9 (nI c) a2 = _
      unfold fX11_forgotten
      rw [glet_s, mk S9 w2.lc, gbv_s, hk, if_neg gzt0, m_isDay, gbv_s, hd, if_neg gzt0, f1, gbd_s, if_pos (gib_nI (show c < 32 by omega) (by decide)), nI_clamp (by omega), if_pos (f3.2.2.2.2.1 c hc1 hs)]
  · obtain ⟨j, j1, j2⟩ := f3.2.2.1.2.2.2 c hs
    have e84 : S10.1 84 c = S9.1 49 c := b_ext (fun g hg => by rw [(w3.2 c hs).2 g hg, ← j2]; exact (f3.2.2.2.2.2 j j1).2 g hg)
    have e82 : S10.1 82 c = nI j := by rw [← j2]; exact (f3.2.2.1.2.1 j j1).2.2
    have hm := f3.2.2.1.1
    refine ⟨S9.1 49 c, S9, S10, ?_, ?_, iv⟩
    · show fX10_forgotten S (nI c) a2 = _
      unfold fX10_forgotten
      rw [xk, gbv_s, hk, if_neg gzt0, x_isDay, gbv_s, hd, if_neg gzt0, w1, gbd_s, x_sees (by omega), gbv_s, w3.1.2.1 c (by omega), hs, if_neg gzt0, if_pos (gib_nI (show c < 32 by omega) (by decide)), nI_clamp (by omega)]
    · show fX11_forgotten S9 (nI c) a2 = _
      unfold fX11_forgotten
      rw [glet_s, mk S9 w2.lc, gbv_s, hk, if_neg gzt0, m_isDay, gbv_s, hd, if_neg gzt0, f1, gbd_s, if_pos (gib_nI (show c < 32 by omega) (by decide)), nI_clamp (by omega), e82, if_neg (nI_nm1 (by omega)), e84]
theorem call_joined (h : IV S) (a1 a2 : Int32) : Both S (fun S => fX10_joined S a1 a2) (fun S => fX11_joined S a1 a2) := by
  obtain ⟨X, S9', hC, w1', w2', w3'⟩ := ask_world h a2 (-1)
  obtain ⟨p1, p2, p3⟩ := hC.np
  obtain ⟨k1, k2, k3⟩ := hC.nk
  have xp := x_isPoint (S := S) (a := a1) p1 (by omega)
  have mp : ∀ S', Lc S S' → fX11_isPoint (gsi S' 54 0 0) a1 = some (gz (gib a1 X.np)) := fun S' q => m_isPoint (by rw [thr_at 33 (by decide), q.1 54 (by omega)]; exact p2) (by omega)
  cases hp : gib a1 X.np
  · refine both_no h (-1) ?_ ?_
    · show fX10_joined S a1 a2 = _
      unfold fX10_joined
      rw [xp, gbv_s, hp, if_pos gzf0]
    · show fX11_joined S a1 a2 = _
      unfold fX11_joined
      rw [glet_s, mp S Lc.rf, gbv_s, hp, if_pos gzf0]
  cases hd : gib a2 10000
  · refine both_no h (-1) ?_ ?_
    · show fX10_joined S a1 a2 = _
      unfold fX10_joined
      rw [xp, gbv_s, hp, if_neg gzt0, x_isDay, gbv_s, hd, if_pos gzf0]
    · show fX11_joined S a1 a2 = _
      unfold fX11_joined
      rw [glet_s, mp S Lc.rf, gbv_s, hp, if_neg gzt0, m_isDay, gbv_s, hd, if_pos gzf0]
  obtain ⟨p, hp1, rfl⟩ := gib_ex hp (by omega)
  have hD := hC.1.D
  rw [hC.2.2.2.1] at hD
  obtain ⟨S9, w1, w2, w3⟩ := x_see (S0 := S) (td := X.td) p3 k3 hD.2.2.2.2.2.2.1 p1 k1 hD.2.2.2.2.1 hD.2.2.2.2.2.2.2 a2 (-1)
  have z9 : Lc S S9 := ⟨fun c hc => w2.1 c (by simp; omega), fun i _ => by rw [w2.2]⟩
  have e37 : S9.1 37 p = nI (X.ld p) := by rw [w3.2.1 p hp1, hC.2.2.2.2.2.1, hC.2.2.2.2.1, hC.2.2.2.1]
  obtain ⟨S10, o, m, f1, f2, f3⟩ := m_world hC (Or.inl rfl) (mf_of hC.2.2.2.1 z9)
  refine ⟨nI (X.ld p), S9, S10, ?_, ?_, IV_rn (IV_thr (IV_lc h z9) 0) f2⟩
  · show fX10_joined S (nI p) a2 = _
    unfold fX10_joined
    rw [xp, gbv_s, hp, if_neg gzt0, x_isDay, gbv_s, hd, if_neg gzt0, w1, gbd_s, if_pos (gib_nI (show p < 12 by omega) (by decide)), nI_clamp (by omega), e37]
  · show fX11_joined S9 (nI p) a2 = _
    unfold fX11_joined
    rw [glet_s, mp S9 z9, gbv_s, hp, if_neg gzt0, m_isDay, gbv_s, hd, if_neg gzt0, f1, gbd_s, if_pos (gib_nI (show p < 12 by omega) (by decide)), nI_clamp (by omega), f3.2.1.2.1 p hp1]
end

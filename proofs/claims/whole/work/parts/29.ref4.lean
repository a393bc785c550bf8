/-! the reference: what a case was blind to -/
section
variable {X : CT} {T : Nat → Bool} {S S' S1 S2 : GS} {day : Int32} {e m c : Nat} {o : Nat → Nat} {B : Nat → Nat → Bool}
theorem CT.ag_lt (hX : X.ok) {p q : Nat} (h : X.ag p q = true) : p < X.np ∧ q < X.np := by
  unfold CT.ag at h
  simp only [gAny_iff, Bool.and_eq_true, decide_eq_true_eq] at h
  obtain ⟨a, a1, b, b1, ⟨-, h2⟩, h3⟩ := h
  rw [← h2, ← h3]
  exact ⟨hX.ld_lt a a1, hX.ld_lt b b1⟩
theorem CT.he_ld (hX : X.ok) {p : Nat} {F : Int32} (h : gHe X.f X.cn X.ld X.nn c p F = true) : p < X.np ∧ X.ld p = p := by
  have hnp := hX.D.2.2.1.2.2.1
  obtain ⟨n, n1, n2⟩ := gAny_iff.mp (CT.sk_sp (he_sk h))
  simp only [Bool.and_eq_true, decide_eq_true_eq] at n2
  have l := (gib_all (hX.D.op n1 n2.1).1 (by omega)).1
  rw [← n2.2]
  exact ⟨hX.ld_lt _ l, hX.ld_ld _ l⟩
theorem m_bl76 (hX : X.ok) (hR : X.mx) (hF : MF X S) (hM : MT X S) (hO : MO X o m S) {i : Nat} (hi : i < m) (hc : o i = c) (hW : MW X (X.Tc c) i S) (hB : ∀ d, X.Tc c d = true → ∀ p, p < 12 → bt (S.1 83 d) p = X.bb d p) {p : Nat} (hp : p < X.np) (k28 : GS → Int32 → Int32 → Int32 → Option (Unit × GS)) :
    ∃ S', fX11_blinds_76 k28 FU S (nI i) (nI c) (nI p) 0 = k28 S' (nI i) (nI c) (nI (p + 1)) ∧ Rf c S S' ∧ (∀ p', p' < 32 → bt (S'.1 83 c) p' = (bt (S.1 83 c) p' || (decide (p' = p) && gAny 12 (fun q => X.ag p q && (gLa X.f X.cn X.ld X.nn q (X.f 9 c) || gAny 32 (X.ms X.bb c q)))))) ∧ ∀ g, g < 32 → bt (S'.1 84 c) g = (bt (S.1 84 c) g || gAny 12 (fun q => X.ag p q && X.ms X.bb c q g)) := by
  have hnp := hX.D.2.2.1.2.2.1
  have ncT : ∀ d, X.Tc c d = true → d ≠ c := by
    intro d h z
    subst z
    unfold CT.Tc at h
    simp only [Bool.and_eq_true, gLb_iff] at h
    exact lat_asym h.2 h.2
  have ext : ∀ P : Nat → Bool, gAny X.np (fun q => X.ag p q && P q) = gAny 12 (fun q => X.ag p q && P q) := by
    intro P
    apply bool_iff
    simp only [gAny_iff, Bool.and_eq_true]
    constructor
    · rintro ⟨q, q1, q2, q3⟩; exact ⟨q, by omega, q2, q3⟩
    · rintro ⟨q, q1, q2, q3⟩; exact ⟨q, (CT.ag_lt hX q2).2, q2, q3⟩
  refine up_any (fun n (S2 : GS) q => fX11_blinds_76 k28 n S2 (nI i) (nI c) (nI p) q) X.np (fun q S2 => Rf c S S2 ∧ (∀ p', p' < 32 → bt (S2.1 83 c) p' = (bt (S.1 83 c) p' || (decide (p' = p) && gAny q (fun q => X.ag p q && (gLa X.f X.cn X.ld X.nn q (X.f 9 c) || gAny 32 (X.ms X.bb c q)))))) ∧ ∀ g, g < 32 → bt (S2.1 84 c) g = (bt (S.1 84 c) g || gAny q (fun q => X.ag p q && X.ms X.bb c q g))) (fun r => ∃ S', r = k28 S' (nI i) (nI c) (nI (p + 1)) ∧ Rf c S S' ∧ (∀ p', p' < 32 → bt (S'.1 83 c) p' = (bt (S.1 83 c) p' || (decide (p' = p) && gAny 12 (fun q => X.ag p q && (gLa X.f X.cn X.ld X.nn q (X.f 9 c) || gAny 32 (X.ms X.bb c q)))))) ∧ ∀ g, g < 32 → bt (S'.1 84 c) g = (bt (S.1 84 c) g || gAny 12 (fun q => X.ag p q && X.ms X.bb c q g)))
    (fun n S2 h => ?_) (fun n q S2 hq h => Or.inr ?_) S ⟨Rf.rf, fun p' _ => (by simp [gAny_0]), fun g _ => (by simp [gAny_0])⟩ FU (FU_gt (by omega))
  · show ∃ S', fX11_blinds_76 k28 (n + 1) S2 (nI i) (nI c) (nI p) (nI X.np) = _ ∧ _
    obtain ⟨h1, h2, h3⟩ := h
    rw [fX11_blinds_76, (hF.rff h1).np hX, if_pos (nI_le (Nat.le_refl _) (by omega)), glet_s, nI_1]
    refine ⟨S2, rfl, h1, fun p' hp' => ?_, fun g hg => ?_⟩
    · rw [h2 p' hp', ext]
    · rw [h3 g hg, ext]
  · show ∃ s', fX11_blinds_76 k28 (n + 1) S2 (nI i) (nI c) (nI p) (nI q) = fX11_blinds_76 k28 n s' (nI i) (nI c) (nI p) (nI (q + 1)) ∧ _
    obtain ⟨h1, h2, h3⟩ := h
    have hF2 := hF.rff h1
    have hM2 := hM.rff h1
    rw [fX11_blinds_76, hF2.np hX, if_neg (nI_ge hq (by omega)), if_pos (gib_nI (show p < 12 by omega) (by decide)), nI_clamp (show p < 2 ^ 31 by omega)]
    simp only [b_tst _ (show q < 32 by omega), hM2.2.2 p hp q (by omega), glet_s, nI_1]
    cases ha : X.ag p q
    · rw [if_neg (by decide)]
      refine ⟨S2, rfl, h1, fun p' hp' => ?_, fun g hg => ?_⟩
      · rw [h2 p' hp', gAny_s, ha]; simp
      · rw [h3 g hg, gAny_s, ha]; simp
    · rw [if_pos rfl]
      obtain ⟨S3, a1, a2, a3, a4⟩ := m_forgets hX hR hF2 hM2 (hO.rff h1) hi hc (hW.rff h1) (fun d hd p hp => by rw [(h1.2.2.1 d (ncT d hd)).1]; exact hB d hd p hp) (show p < 12 by omega) (show q < 12 by omega)
      rw [a1, gbd_s]
      refine ⟨S3, rfl, h1.tr a2, fun p' hp' => ?_, fun g hg => ?_⟩
      · rw [a3 p' hp', h2 p' hp', gAny_s q, ha, Bool.true_and]
        cases bt (S.1 83 c) p' <;> cases decide (p' = p) <;> simp
      · rw [a4 g hg, h3 g hg, gAny_s, ha, Bool.true_and, Bool.or_assoc]
/-- the reference's frame of blinds -/
def Rk (S S' : GS) : Prop := (∀ k, k ≠ 54 → k ≠ 83 → k ≠ 84 → k ≠ 85 → S'.1 k = S.1 k) ∧ (∀ j, j ≠ 28 → S'.1 54 j = S.1 54 j) ∧ S'.2.2 = S.2.2
theorem Rk.rf : Rk S S := ⟨fun _ _ _ _ _ => rfl, fun _ _ => rfl, rfl⟩
theorem Rk.tr (h : Rk S S1) (h2 : Rk S1 S2) : Rk S S2 := ⟨fun k a b d f => (h2.1 k a b d f).trans (h.1 k a b d f), fun j a => (h2.2.1 j a).trans (h.2.1 j a), h2.2.2.trans h.2.2⟩
theorem Rf.rk (h : Rf c S S1) : Rk S S1 := ⟨fun k a b d _ => h.1 k a b d, h.2.1, h.2.2.2⟩
theorem Fr.rk (h : Fr [85] S S1) : Rk S S1 := ⟨fun k _ _ _ a => h.1 k (by simpa using a), fun j _ => by rw [h.at 54 (by decide)], by rw [h.2]⟩
theorem MF.rk (h : MF X S) (q : Rk S S') : MF X S' := ⟨fun k a b => by rw [q.1 k (by omega) (by omega) (by omega) (by omega)]; exact h.1 k a b, fun j a => by rw [q.2.1 j (by rintro rfl; cases a)]; exact h.2 j a⟩
theorem MT.rk (h : MT X S) (q : Rk S S') : MT X S' := by unfold MT at h ⊢; rw [q.1 78 (by decide) (by decide) (by decide) (by decide), q.1 79 (by decide) (by decide) (by decide) (by decide), q.1 80 (by decide) (by decide) (by decide) (by decide)]; exact h
theorem MO.rk (h : MO X o m S) (q : Rk S S') : MO X o m S' := h.cg (q.1 81 (by decide) (by decide) (by decide) (by decide)) (q.1 82 (by decide) (by decide) (by decide) (by decide))
theorem m_blinds (hX : X.ok) (hR : X.mx) (hF : MF X S) (hM : MT X S) (hO : MO X o m S) {i : Nat} (hi : i < m) (hB : ∀ j, j < i → ∀ p, p < 12 → bt (S.1 83 (o j)) p = X.bb (o j) p) :
    ∃ S', fX11_blinds S (nI i) = some ((), S') ∧ Rk S S' ∧ (∀ d, d ≠ o i → S'.1 83 d = S.1 83 d ∧ S'.1 84 d = S.1 84 d) ∧ (∀ p, p < 12 → bt (S'.1 83 (o i)) p = X.bb (o i) p) ∧ ∀ g, g < 32 → bt (S'.1 84 (o i)) g = X.fg (o i) g := by
  have hnk := hX.D.2.2.2.1.2.2.1
  have hnp := hX.D.2.2.1.2.2.1
  have hm := hO.1
  have ol := hO.lt hX hi
  obtain ⟨c, hc⟩ : ∃ c, c = o i := ⟨_, rfl⟩
  rw [← hc] at ol ⊢
  have wc := hX.D.2.2.2.1.2.2.2.1 c ol
  have ec : (nI c).toNatClampNeg = c := nI_clamp (by omega)
  have g32 : gib (nI c) 32 = true := gib_nI (by omega) (by decide)
  have ncT : ∀ d, X.Tc c d = true → d ≠ c := by
    intro d h z
    subst z
    unfold CT.Tc at h
    simp only [Bool.and_eq_true, gLb_iff] at h
    exact lat_asym h.2 h.2
  unfold fX11_blinds
  rw [if_pos (gib_nI (show i < 32 by omega) (by decide)), nI_clamp (show i < 2 ^ 31 by omega), (hO.2.1 i hi).1, ← hc, glet_s, if_pos g32, ec, glet_s, glet_s]
  have r5 : Rf c S (gsi (gsi S 83 c 0) 84 c 0) := (Rf.rf.p83 _).p84 _
  have z83 : (gsi (gsi S 83 c 0) 84 c 0).1 83 c = 0 := by simp [gsi_r]
  have z84 : (gsi (gsi S 83 c 0) 84 c 0).1 84 c = 0 := by simp [gsi_r]
  generalize gsi (gsi S 83 c 0) 84 c 0 = S5 at r5 z83 z84 ⊢
  obtain ⟨S8, a1, a2, a3⟩ := m_undoes (T := X.Tc c) (e := i) hX (hF.rff r5) (hM.rff r5) (hO.rff r5) (by omega) (fun d => by rw [hc]; exact hO.Tc hX hi d)
  rw [a1, gbd_s, glet_s]
  have rk8 : Rk S S8 := r5.rk.tr a2.rk
  have hF8 := hF.rk rk8
  have hM8 := hM.rk rk8
  have hO8 := hO.rk rk8
  have hW8 : MW X (X.Tc c) i S8 := hO8.mw hX (by omega) (fun d => by rw [hc]; exact hO.Tc hX hi d) a3
  have z83' : S8.1 83 c = 0 := by rw [a2.at 83 (by decide)]; exact z83
  have z84' : S8.1 84 c = 0 := by rw [a2.at 84 (by decide)]; exact z84
  have o83 : ∀ d, d ≠ c → S8.1 83 d = S.1 83 d ∧ S8.1 84 d = S.1 84 d := fun d hd => by rw [a2.at 83 (by decide), a2.at 84 (by decide)]; exact r5.2.2.1 d hd
  have hB8 : ∀ d, X.Tc c d = true → ∀ p, p < 12 → bt (S8.1 83 d) p = X.bb d p := fun d hd p hp => by
    rw [(o83 d (ncT d hd)).1]
    rw [hc] at hd
    obtain ⟨j, j1, j2⟩ := (hO.Tc hX hi d).mp hd
    rw [← j2]
    exact hB j j1 p hp
  have sc : X.sn c = true := by rw [hc]; exact (hO.2.1 i hi).2.1
  have he0 : ∀ p, ¬ (p < X.np ∧ X.ld p = p) → gHe X.f X.cn X.ld X.nn c p (X.f 11 c) = false := fun p hp => by
    cases h : gHe X.f X.cn X.ld X.nn c p (X.f 11 c)
    · rfl
    · exact absurd (CT.he_ld hX h) hp
  have run : ∃ S', fX11_blinds_28 FU S8 (nI i) (nI c) 0 = some ((), S') ∧ Rf c S8 S' ∧ (∀ p', p' < 32 → bt (S'.1 83 c) p' = (decide (p' < X.np) && X.bl X.bb c p')) ∧ ∀ g, g < 32 → bt (S'.1 84 c) g = gAny X.np (fun p => gHe X.f X.cn X.ld X.nn c p (X.f 11 c) && gAny 12 (fun q => X.ag p q && X.ms X.bb c q g)) := by
    refine up_any (fun n (S2 : GS) p => fX11_blinds_28 n S2 (nI i) (nI c) p) X.np (fun p S2 => Rf c S8 S2 ∧ (∀ p', p' < 32 → bt (S2.1 83 c) p' = (decide (p' < p) && X.bl X.bb c p')) ∧ ∀ g, g < 32 → bt (S2.1 84 c) g = gAny p (fun p => gHe X.f X.cn X.ld X.nn c p (X.f 11 c) && gAny 12 (fun q => X.ag p q && X.ms X.bb c q g))) (fun r => ∃ S', r = some ((), S') ∧ Rf c S8 S' ∧ (∀ p', p' < 32 → bt (S'.1 83 c) p' = (decide (p' < X.np) && X.bl X.bb c p')) ∧ ∀ g, g < 32 → bt (S'.1 84 c) g = gAny X.np (fun p => gHe X.f X.cn X.ld X.nn c p (X.f 11 c) && gAny 12 (fun q => X.ag p q && X.ms X.bb c q g)))
      (fun n S2 h => ?_) (fun n p S2 hp h => Or.inr ?_) S8 ⟨Rf.rf, fun p' _ => (by rw [z83', b_0]; simp), fun g _ => (by rw [z84', b_0]; rfl)⟩ FU (FU_gt (by omega))
    · show ∃ S', fX11_blinds_28 (n + 1) S2 (nI i) (nI c) (nI X.np) = _ ∧ _
      rw [fX11_blinds_28, (hF8.rff h.1).np hX, if_pos (nI_le (Nat.le_refl _) (by omega))]
      exact ⟨S2, rfl, h⟩
    · show ∃ s', fX11_blinds_28 (n + 1) S2 (nI i) (nI c) (nI p) = fX11_blinds_28 n s' (nI i) (nI c) (nI (p + 1)) ∧ _
      obtain ⟨h1, h2, h3⟩ := h
      have hF2 := hF8.rff h1
      have hM2 := hM8.rff h1
      have skip : (gHe X.f X.cn X.ld X.nn c p (X.f 11 c) && gAny 12 (X.ag p)) = false → ∃ s', fX11_blinds_28 n S2 (nI i) (nI c) (nI (p + 1)) = fX11_blinds_28 n s' (nI i) (nI c) (nI (p + 1)) ∧ Rf c S8 s' ∧ (∀ p', p' < 32 → bt (s'.1 83 c) p' = (decide (p' < p + 1) && X.bl X.bb c p')) ∧ ∀ g, g < 32 → bt (s'.1 84 c) g = gAny (p + 1) (fun p => gHe X.f X.cn X.ld X.nn c p (X.f 11 c) && gAny 12 (fun q => X.ag p q && X.ms X.bb c q g)) := by
        intro hz
        have z : ∀ P : Nat → Bool, (gHe X.f X.cn X.ld X.nn c p (X.f 11 c) && gAny 12 (fun q => X.ag p q && P q)) = false := fun P => by
          cases hh : gHe X.f X.cn X.ld X.nn c p (X.f 11 c)
          · rfl
          · rw [hh] at hz
            rw [Bool.true_and]
            apply gAny_f
            intro q hq
            cases ha : X.ag p q
            · rfl
            · rw [Bool.true_and, gAny_iff.mpr ⟨q, hq, ha⟩] at hz; cases hz
        refine ⟨S2, rfl, h1, fun p' hp' => ?_, fun g hg => ?_⟩
        · rw [h2 p' hp']
          by_cases q : p' = p
          · subst q
            have : X.bl X.bb c p' = false := z _
            simp [this]
          · have : (p' < p + 1) = (p' < p) := by apply propext; omega
            simp only [this]
        · rw [h3 g hg, gAny_s, z, Bool.or_false]
      rw [fX11_blinds_28, hF2.np hX, if_neg (nI_ge hp (by omega)), if_pos (gib_nI (show p < 12 by omega) (by decide)), nI_clamp (show p < 2 ^ 31 by omega), hM2.2.1 p hp]
      have lp := hX.ld_lt p hp
      simp only [nI_eq (show X.ld p < 2 ^ 31 by omega) (show p < 2 ^ 31 by omega), glet_s, nI_1]
      by_cases cl : X.ld p = p
      · rw [if_pos cl]
        have hbits : ∀ d, d < 32 → bt (S2.1 80 p) d = X.ag p d := fun d hd => hM2.2.2 p hp d hd
        simp only [gAny_bits hbits]
        by_cases ca : gAny 32 (X.ag p) = false
        · rw [if_pos ca]
          refine skip ?_
          have : gAny 12 (X.ag p) = false := by
            apply gAny_f
            intro q hq
            cases ha : X.ag p q
            · rfl
            · rw [gAny_iff.mpr ⟨q, by omega, ha⟩] at ca; cases ca
          rw [this]; simp
        · rw [if_neg ca, if_pos g32, ec, hF2.1 69 (by decide) (by decide), wc.2.2.2.1, m_held hX hF2 hM2 ol (by omega), gbv_s]
          simp only [gz_0]
          cases hh : gHe X.f X.cn X.ld X.nn c p (X.f 11 c)
          · rw [if_pos rfl]
            exact skip (by rw [hh]; rfl)
          · rw [if_neg (by decide)]
            obtain ⟨S3, b1, b2, b3, b4⟩ := m_bl76 hX hR hF2 hM2 (hO8.rff h1) hi hc.symm (hW8.rff h1) (fun d hd p hp => by rw [(h1.2.2.1 d (ncT d hd)).1]; exact hB8 d hd p hp) hp (fX11_blinds_28 n)
            refine ⟨S3, b1, h1.tr b2, fun p' hp' => ?_, fun g hg => ?_⟩
            · rw [b3 p' hp', h2 p' hp']
              by_cases q : p' = p
              · subst q
                unfold CT.bl
                simp [hh]
              · have : (p' < p + 1) = (p' < p) := by apply propext; omega
                simp [this, q]
            · rw [b4 g hg, h3 g hg, gAny_s p, hh, Bool.true_and]
      · rw [if_neg cl]
        exact skip (by rw [he0 p (fun z => cl z.2)]; rfl)
  obtain ⟨S', b1, b2, b3, b4⟩ := run
  refine ⟨S', b1, rk8.tr b2.rk, fun d hd => ⟨(b2.2.2.1 d hd).1.trans (o83 d hd).1, (b2.2.2.1 d hd).2.trans (o83 d hd).2⟩, fun p hp => ?_, fun g hg => ?_⟩
  · rw [b3 p (by omega), CT.bb_eq hX sc]
    by_cases z : p < X.np
    · simp [z]
    · unfold CT.bl
      rw [he0 p (fun q => z q.1)]
      simp
  · rw [b4 g hg]
    unfold CT.fg
    apply bool_iff
    simp only [gAny_iff, Bool.and_eq_true]
    constructor
    · rintro ⟨p, p1, p2, p3⟩; exact ⟨p, by omega, p2, p3⟩
    · rintro ⟨p, p1, p2, p3⟩; exact ⟨p, (CT.he_ld hX p2).1, p2, p3⟩
/-- the reference's world, known -/
def MD (X : CT) (o : Nat → Nat) (m : Nat) (S : GS) : Prop := MF X S ∧ MT X S ∧ MO X o m S ∧ S.1 54 52 = nI m ∧ (∀ c, c < X.nk → X.sn c = false → S.1 82 c = -1) ∧ ∀ j, j < m → (∀ p, p < 12 → bt (S.1 83 (o j)) p = X.bb (o j) p) ∧ ∀ g, g < 32 → bt (S.1 84 (o j)) g = X.fg (o j) g
theorem m_kn344 (hX : X.ok) (hR : X.mx) (hF : MF X S) (hM : MT X S) (hO : MO X o m S) (h52 : S.1 54 52 = nI m) (hs : ∀ c, c < X.nk → X.sn c = false → S.1 82 c = -1) : ∃ S', fX11_knows_344 FU S 0 = some ((), S') ∧ Rk S S' ∧ MD X o m S' := by
  have hm := hO.1
  have run : ∃ S', fX11_knows_344 FU S 0 = some ((), S') ∧ Rk S S' ∧ ∀ j, j < m → (∀ p, p < 12 → bt (S'.1 83 (o j)) p = X.bb (o j) p) ∧ ∀ g, g < 32 → bt (S'.1 84 (o j)) g = X.fg (o j) g := by
    refine up_any (fun n (S2 : GS) i => fX11_knows_344 n S2 i) m (fun i S2 => Rk S S2 ∧ ∀ j, j < i → (∀ p, p < 12 → bt (S2.1 83 (o j)) p = X.bb (o j) p) ∧ ∀ g, g < 32 → bt (S2.1 84 (o j)) g = X.fg (o j) g) (fun r => ∃ S', r = some ((), S') ∧ Rk S S' ∧ ∀ j, j < m → (∀ p, p < 12 → bt (S'.1 83 (o j)) p = X.bb (o j) p) ∧ ∀ g, g < 32 → bt (S'.1 84 (o j)) g = X.fg (o j) g)
      (fun n S2 h => ?_) (fun n i S2 hi h => Or.inr ?_) S ⟨Rk.rf, fun j hj => absurd hj (Nat.not_lt_zero _)⟩ FU (FU_gt (by omega))
    · show ∃ S', fX11_knows_344 (n + 1) S2 (nI m) = _ ∧ _
      rw [fX11_knows_344, h.1.2.1 52 (by decide), h52, if_pos (nI_le (Nat.le_refl _) (by omega))]
      exact ⟨S2, rfl, h⟩
    · show ∃ s', fX11_knows_344 (n + 1) S2 (nI i) = fX11_knows_344 n s' (nI (i + 1)) ∧ _
      rw [fX11_knows_344, h.1.2.1 52 (by decide), h52, if_neg (nI_ge hi (by omega))]
      obtain ⟨S3, a1, a2, a3, a4, a5⟩ := m_blinds hX hR (hF.rk h.1) (hM.rk h.1) (hO.rk h.1) hi (fun j hj => (h.2 j hj).1)
      rw [a1, gbd_s, glet_s, nI_1]
      refine ⟨S3, rfl, h.1.tr a2, fun j hj => ?_⟩
      by_cases z : j = i
      · subst z; exact ⟨a4, a5⟩
      · have := a3 (o j) (fun q => z (hO.inj hX (by omega) hi q))
        rw [this.1, this.2]
        exact h.2 j (by omega)
  obtain ⟨S', a1, a2, a3⟩ := run
  exact ⟨S', a1, a2, hF.rk a2, hM.rk a2, hO.rk a2, by rw [a2.2.1 52 (by decide)]; exact h52, fun c a b => by rw [a2.1 82 (by decide) (by decide) (by decide) (by decide)]; exact hs c a b, a3⟩
end

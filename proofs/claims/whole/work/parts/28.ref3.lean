/-! the reference: undone, forgotten, blind -/
def MO (X : CT) (o : Nat → Nat) (m : Nat) (S : GS) : Prop := m ≤ 32 ∧ (∀ i, i < m → S.1 81 i = nI (o i) ∧ X.sn (o i) = true ∧ S.1 82 (o i) = nI i) ∧ (∀ i j, i < j → j < m → gLat X.f (o j) (o i)) ∧ ∀ d, X.sn d = true → ∃ i, i < m ∧ o i = d
theorem nar_1 : vp_nar .boolean (1 : Int32) = 1 := rfl
theorem nar_0 : vp_nar .boolean (0 : Int32) = 0 := rfl
section
variable {X : CT} {T : Nat → Bool} {S S' S1 S2 : GS} {day : Int32} {e m c : Nat} {o : Nat → Nat} {B : Nat → Nat → Bool}
theorem MO.lt (hX : X.ok) (h : MO X o m S) {i : Nat} (hi : i < m) : o i < X.nk := hX.sn_lt _ (h.2.1 i hi).2.1
theorem MO.ord (hX : X.ok) (h : MO X o m S) {i j : Nat} (hi : i < m) (hj : j < m) : gLat X.f (o j) (o i) ↔ i < j := by
  constructor
  · intro q
    rcases Nat.lt_or_ge i j with z | z
    · exact z
    · exfalso
      rcases Nat.lt_or_ge j i with z2 | z2
      · exact lat_asym q (h.2.2.1 j i z2 hi)
      · have : i = j := by omega
        subst this
        exact lat_asym q q
  · intro q; exact h.2.2.1 i j q hj
theorem MO.inj (hX : X.ok) (h : MO X o m S) {i j : Nat} (hi : i < m) (hj : j < m) (q : o i = o j) : i = j := by
  rcases Nat.lt_or_ge i j with z | z
  · have := h.2.2.1 i j z hj
    rw [q] at this
    exact absurd this (lat_asym this)
  · rcases Nat.lt_or_ge j i with z2 | z2
    · have := h.2.2.1 j i z2 hi
      rw [q] at this
      exact absurd this (lat_asym this)
    · omega
theorem MO.cg (h : MO X o m S) (e1 : S'.1 81 = S.1 81) (e2 : S'.1 82 = S.1 82) : MO X o m S' := by unfold MO at h ⊢; rw [e1, e2]; exact h
theorem MO.Tc (hX : X.ok) (h : MO X o m S) {i : Nat} (hi : i < m) (d : Nat) : X.Tc (o i) d = true ↔ ∃ j, j < i ∧ o j = d := by
  unfold CT.Tc
  simp only [Bool.and_eq_true, gLb_iff]
  constructor
  · rintro ⟨q1, q2⟩
    obtain ⟨j, j1, j2⟩ := h.2.2.2 d q1
    rw [← j2] at q2
    exact ⟨j, (h.ord hX j1 hi).mp q2, j2⟩
  · rintro ⟨j, j1, j2⟩
    rw [← j2]
    exact ⟨(h.2.1 j (by omega)).2.1, (h.ord hX (by omega) hi).mpr j1⟩
theorem MO.mw (hX : X.ok) (h : MO X o m S) (he : e ≤ m) (hT : ∀ d, T d = true ↔ ∃ i, i < e ∧ o i = d) (hu : ∀ d, T d = true → S.1 85 d = gz (X.u T d)) : MW X T e S := by
  refine ⟨fun d hd => ?_, fun d hd => ⟨?_, hu d hd⟩, by have := h.1; omega⟩
  · obtain ⟨i, i1, i2⟩ := h.2.2.2 d hd
    refine ⟨i, by have := h.1; omega, by rw [← i2]; exact (h.2.1 i i1).2.2, ?_⟩
    rw [hT]
    constructor
    · intro q; exact ⟨i, q, i2⟩
    · rintro ⟨j, j1, j2⟩
      have := h.inj hX i1 (by omega) (i2.trans j2.symm)
      omega
  · obtain ⟨i, i1, i2⟩ := (hT d).mp hd
    rw [← i2]; exact (h.2.1 i (by omega)).2.1
theorem m_undoes (hX : X.ok) (hF : MF X S) (hM : MT X S) (hO : MO X o m S) (he : e ≤ m) (hT : ∀ d, T d = true ↔ ∃ i, i < e ∧ o i = d) : ∃ S', fX11_undoes S (nI e) = some ((), S') ∧ Fr [85] S S' ∧ ∀ d, T d = true → S'.1 85 d = gz (X.u T d) := by
  have hnn := hX.D.2.2.2.2.2.2.1
  have hnk := hX.D.2.2.2.1.2.2.1
  have hm := hO.1
  have hTn : ∀ d, T d = true → d < X.nk := fun d hd => by
    obtain ⟨i, i1, i2⟩ := (hT d).mp hd
    rw [← i2]; exact hO.lt hX (by omega)
  unfold fX11_undoes
  rw [glet_s]
  obtain ⟨S', a1, a2, a3⟩ := down_loop (fun n S i => fX11_undoes_4 n S (nI e) i) (fun i S2 => i ≤ e ∧ Fr [85] S S2 ∧ ∀ j, i ≤ j → j < e → S2.1 85 (o j) = gz (X.u T (o j))) (fun S => some ((), S))
    (fun n S2 h => by rw [fX11_undoes_4, if_pos (by decide)])
    (fun n i S2 h => by
      obtain ⟨h0, hf, hb⟩ := h
      have ol := hO.lt hX (show i < m by omega)
      have e81 : S2.1 81 i = nI (o i) := by rw [hf.at 81 (by decide)]; exact (hO.2.1 i (by omega)).1
      have hTc : T (o i) = true := (hT _).mpr ⟨i, by omega, rfl⟩
      rw [fX11_undoes_4, if_neg (nI_pos (show i < 2 ^ 31 by omega)), if_pos (gib_nI (show i < 32 by omega) (by decide)), nI_clamp (show i < 2 ^ 31 by omega), e81, glet_s, if_pos (gib_nI (show o i < 32 by omega) (by decide)), nI_clamp (show o i < 2 ^ 31 by omega), glet_s, glet_s, nar_0]
      have fr5 : Fr [85] S (gsi S2 85 (o i) 0) := hf.put (by simp) _ _
      obtain ⟨S3, b1, b2, b3, b4⟩ : ∃ S3, fX11_undoes_25 (fX11_undoes_4 n) FU (gsi S2 85 (o i) 0) (nI e) (nI i) (nI (o i)) 0 = fX11_undoes_4 n S3 (nI e) (nI i - 1) ∧ Fr [85] S S3 ∧ (∀ d, d ≠ o i → S3.1 85 d = S2.1 85 d) ∧ S3.1 85 (o i) = gz (X.u T (o i)) := by
        refine up_any (fun n1 (S1 : GS) i1 => fX11_undoes_25 (fX11_undoes_4 n) n1 S1 (nI e) (nI i) (nI (o i)) i1) X.nn (fun q S1 => Fr [85] S S1 ∧ (∀ d, d ≠ o i → S1.1 85 d = S2.1 85 d) ∧ S1.1 85 (o i) = gz (gAny q (fun n => X.cn n && decide (X.f 15 n = 4) && decide ((X.f 18 n).toNatClampNeg = o i) && (T (X.f 17 n).toNatClampNeg && !(X.u T (X.f 17 n).toNatClampNeg))))) (fun r => ∃ S3, r = fX11_undoes_4 n S3 (nI e) (nI i - 1) ∧ Fr [85] S S3 ∧ (∀ d, d ≠ o i → S3.1 85 d = S2.1 85 d) ∧ S3.1 85 (o i) = gz (X.u T (o i)))
          (fun n1 S1 h => ?_) (fun n1 q S1 hq h => Or.inr ?_) _ ⟨fr5, fun d hd => ?_, ?_⟩ FU (FU_gt (by omega))
        · show ∃ S3, fX11_undoes_25 (fX11_undoes_4 n) (n1 + 1) S1 (nI e) (nI i) (nI (o i)) (nI X.nn) = _ ∧ _
          obtain ⟨g1, g2, g3⟩ := h
          have hF1 : S1.1 54 41 = nI X.nn := by rw [g1.at 54 (by decide)]; exact hF.nn hX
          rw [fX11_undoes_25, hF1, if_pos (nI_le (Nat.le_refl _) (by omega)), glet_s, m1_eq]
          refine ⟨S1, rfl, g1, g2, ?_⟩
          rw [g3]
          congr 1
          rw [CT.u_eq hX hTn hTc]
          apply bool_iff
          unfold CT.un
          simp only [gAny_iff, Bool.and_eq_true, decide_eq_true_eq]
          constructor
          · rintro ⟨n, n1, ⟨⟨n2, n3⟩, n4⟩, n5, n6⟩
            exact ⟨_, by have := hTn _ n5; omega, ⟨n5, n6⟩, n, n1, ⟨⟨n2, n3⟩, n4⟩, rfl⟩
          · rintro ⟨d, d1, ⟨d2, d3⟩, n, n1, ⟨⟨n2, n3⟩, n4⟩, n5⟩
            exact ⟨n, n1, ⟨⟨n2, n3⟩, n4⟩, by rw [n5]; exact d2, by rw [n5]; exact d3⟩
        · show ∃ s', fX11_undoes_25 (fX11_undoes_4 n) (n1 + 1) S1 (nI e) (nI i) (nI (o i)) (nI q) = fX11_undoes_25 (fX11_undoes_4 n) n1 s' (nI e) (nI i) (nI (o i)) (nI (q + 1)) ∧ _
          obtain ⟨g1, g2, g3⟩ := h
          have hF1 : MF X S1 := ⟨fun c a b => by rw [g1.1 c (by simp; omega)]; exact hF.1 c a b, fun j a => by rw [g1.at 54 (by decide)]; exact hF.2 j a⟩
          have e78 : S1.1 78 q = gz (X.cn q) := by rw [g1.at 78 (by decide)]; exact hM.1 q hq
          have skip : (X.cn q && decide (X.f 15 q = 4) && decide ((X.f 18 q).toNatClampNeg = o i) && (T (X.f 17 q).toNatClampNeg && !(X.u T (X.f 17 q).toNatClampNeg))) = false → ∃ s', fX11_undoes_25 (fX11_undoes_4 n) n1 S1 (nI e) (nI i) (nI (o i)) (nI (q + 1)) = fX11_undoes_25 (fX11_undoes_4 n) n1 s' (nI e) (nI i) (nI (o i)) (nI (q + 1)) ∧ Fr [85] S s' ∧ (∀ d, d ≠ o i → s'.1 85 d = S2.1 85 d) ∧ s'.1 85 (o i) = gz (gAny (q + 1) (fun n => X.cn n && decide (X.f 15 n = 4) && decide ((X.f 18 n).toNatClampNeg = o i) && (T (X.f 17 n).toNatClampNeg && !(X.u T (X.f 17 n).toNatClampNeg)))) :=
            fun hz => ⟨S1, rfl, g1, g2, by rw [g3, gAny_s, hz, Bool.or_false]⟩
          rw [fX11_undoes_25, hF1.nn hX, if_neg (nI_ge hq (by omega)), if_pos (gib_nI (show q < 120 by omega) (by decide)), nI_clamp (show q < 2 ^ 31 by omega), e78, hF1.kd hX hq]
          simp only [gz_0, glet_s, nI_1]
          cases hcn : X.cn q
          · rw [if_pos rfl]; exact skip (by simp [hcn])
          rw [if_neg (by decide)]
          by_cases c0 : X.f 15 q = 4
          · have k1 : (1 : Int32) < X.f 15 q := by rw [c0]; decide
            have k4 : X.f 15 q ≤ 4 := by rw [c0]; decide
            have w := (hX.n1 hq).2.2.2.2.2.1 k1 k4
            rw [if_pos c0, hF1.1 73 (by decide) (by decide), hF1.1 74 (by decide) (by decide), w.1, w.2.1]
            simp only [eqI w.2.2.2.1 (show X.nk < 2 ^ 31 by omega) (show o i < 2 ^ 31 by omega)]
            by_cases cc : (X.f 18 q).toNatClampNeg = o i
            · rw [if_pos cc, if_pos (gib_ge w.2.2.1 hnk)]
              obtain ⟨j, j1, j2⟩ := hO.2.2.2 _ (hX.op q hq hcn k4)
              have e82 : S1.1 82 (X.f 17 q).toNatClampNeg = nI j := by rw [g1.at 82 (by decide), ← j2]; exact (hO.2.1 j j1).2.2
              rw [e82]
              simp only [nI_leI (show e < 2 ^ 31 by omega) (show j < 2 ^ 31 by omega)]
              have hTd : T (X.f 17 q).toNatClampNeg = true ↔ j < e := by
                rw [hT]
                constructor
                · rintro ⟨j', q1, q2⟩
                  have := hO.inj hX j1 (by omega) (j2.trans q2.symm)
                  omega
                · intro z; exact ⟨j, z, j2⟩
              by_cases ce : e ≤ j
              · rw [if_pos ce]
                exact skip (by
                  cases hz : T (X.f 17 q).toNatClampNeg
                  · simp
                  · have := hTd.mp hz; omega)
              · rw [if_neg ce]
                have lt : i < j := by
                  have := w.2.2.2.2.1
                  rw [cc, ← j2] at this
                  exact (hO.ord hX (by omega) j1).mp this
                have e85 : S1.1 85 (X.f 17 q).toNatClampNeg = gz (X.u T (X.f 17 q).toNatClampNeg) := by
                  rw [← j2, g2 _ (fun z => by have := hO.inj hX j1 (by omega) z; omega)]
                  exact hb j (by omega) (by omega)
                rw [e85]
                simp only [gz_0]
                cases hu : X.u T (X.f 17 q).toNatClampNeg
                · rw [if_pos rfl, if_pos (gib_nI (show o i < 32 by omega) (by decide)), nI_clamp (show o i < 2 ^ 31 by omega), nar_1]
                  refine ⟨_, rfl, g1.put (by simp) _ _, fun d hd => ?_, ?_⟩
                  · rw [gsi_r, if_neg (by rintro ⟨-, z⟩; exact hd z)]; exact g2 d hd
                  · rw [gsi_r, if_pos ⟨rfl, rfl⟩, gAny_s]
                    have : (X.cn q && decide (X.f 15 q = 4) && decide ((X.f 18 q).toNatClampNeg = o i) && (T (X.f 17 q).toNatClampNeg && !(X.u T (X.f 17 q).toNatClampNeg))) = true := by
                      rw [hcn, hu, hTd.mpr (by omega), decide_eq_true c0, decide_eq_true cc]; rfl
                    rw [this, Bool.or_true]; rfl
                · rw [if_neg (by decide)]; exact skip (by rw [hu]; simp)
            · rw [if_neg cc]; exact skip (by simp [cc])
          · rw [if_neg c0]; exact skip (by simp [c0])
        · rw [gsi_r, if_neg (by rintro ⟨-, z⟩; exact hd z)]
        · rw [gsi_r, if_pos ⟨rfl, rfl⟩]; rfl
      refine ⟨S3, b1, by omega, b2, fun j h1 h2 => ?_⟩
      by_cases z : j = i
      · subst z; exact b4
      · rw [b3 _ (fun q => z (hO.inj hX (by omega) (by omega) q))]
        exact hb j (by omega) h2)
    e S ⟨Nat.le_refl _, Fr.rf, fun j h1 h2 => by omega⟩ FU (FU_gt (by omega))
  refine ⟨S', a1, a3.1, fun d hd => ?_⟩
  obtain ⟨i, i1, i2⟩ := (hT d).mp hd
  rw [← i2]
  exact a3.2 i (Nat.zero_le _) i1
/-- of the reference only the names' places, and what one case forgot, have changed -/
def Rf (c : Nat) (S S' : GS) : Prop := (∀ k, k ≠ 54 → k ≠ 83 → k ≠ 84 → S'.1 k = S.1 k) ∧ (∀ j, j ≠ 28 → S'.1 54 j = S.1 54 j) ∧ (∀ d, d ≠ c → S'.1 83 d = S.1 83 d ∧ S'.1 84 d = S.1 84 d) ∧ S'.2.2 = S.2.2
theorem Rf.rf : Rf c S S := ⟨fun _ _ _ _ => rfl, fun _ _ => rfl, fun _ _ => ⟨rfl, rfl⟩, rfl⟩
theorem Rf.tr (h : Rf c S S1) (h2 : Rf c S1 S2) : Rf c S S2 := ⟨fun k a b d => (h2.1 k a b d).trans (h.1 k a b d), fun j a => (h2.2.1 j a).trans (h.2.1 j a), fun d q => ⟨(h2.2.2.1 d q).1.trans (h.2.2.1 d q).1, (h2.2.2.1 d q).2.trans (h.2.2.1 d q).2⟩, h2.2.2.2.trans h.2.2.2⟩
theorem ME.rff (h : ME S S1) : Rf c S S1 := ⟨fun k a _ _ => h.1 k a, h.2.1, fun d _ => ⟨by rw [h.1 83 (by decide)], by rw [h.1 84 (by decide)]⟩, h.2.2⟩
theorem Rf.p83 (h : Rf c S S1) (x : Int32) : Rf c S (gsi S1 83 c x) := by
  refine ⟨fun k a b d => ?_, fun j hj => ?_, fun d hd => ⟨?_, ?_⟩, h.2.2.2⟩
  · rw [gsi_ne b]; exact h.1 k a b d
  · rw [gsi_ne (by decide)]; exact h.2.1 j hj
  · rw [gsi_r, if_neg (by rintro ⟨-, z⟩; exact hd z)]; exact (h.2.2.1 d hd).1
  · rw [gsi_ne (by decide)]; exact (h.2.2.1 d hd).2
theorem Rf.p84 (h : Rf c S S1) (x : Int32) : Rf c S (gsi S1 84 c x) := by
  refine ⟨fun k a b d => ?_, fun j hj => ?_, fun d hd => ⟨?_, ?_⟩, h.2.2.2⟩
  · rw [gsi_ne d]; exact h.1 k a b d
  · rw [gsi_ne (by decide)]; exact h.2.1 j hj
  · rw [gsi_ne (by decide)]; exact (h.2.2.1 d hd).1
  · rw [gsi_r, if_neg (by rintro ⟨-, z⟩; exact hd z)]; exact (h.2.2.1 d hd).2
theorem MF.rff (h : MF X S) (q : Rf c S S') : MF X S' := ⟨fun k a b => by rw [q.1 k (by omega) (by omega) (by omega)]; exact h.1 k a b, fun j a => by rw [q.2.1 j (by rintro rfl; cases a)]; exact h.2 j a⟩
theorem MT.rff (h : MT X S) (q : Rf c S S') : MT X S' := by unfold MT at h ⊢; rw [q.1 78 (by decide) (by decide) (by decide), q.1 79 (by decide) (by decide) (by decide), q.1 80 (by decide) (by decide) (by decide)]; exact h
theorem MW.rff (h : MW X T e S) (q : Rf c S S') : MW X T e S' := by unfold MW at h ⊢; rw [q.1 82 (by decide) (by decide) (by decide), q.1 85 (by decide) (by decide) (by decide)]; exact h
theorem MO.rff (h : MO X o m S) (q : Rf c S S') : MO X o m S' := h.cg (q.1 81 (by decide) (by decide) (by decide)) (q.1 82 (by decide) (by decide) (by decide))
theorem CT.ms_T {B : Nat → Nat → Bool} {q g : Nat} (h : X.ms B c q g = true) : X.Tc c g = true := by
  unfold CT.ms CT.wt at h
  cases hT : X.Tc c g
  · rw [hT] at h; simp at h
  · rfl
theorem m_forgets (hX : X.ok) (hR : X.mx) (hF : MF X S) (hM : MT X S) (hO : MO X o m S) {i : Nat} (hi : i < m) (hc : o i = c) (hW : MW X (X.Tc c) i S) (hB : ∀ d, X.Tc c d = true → ∀ p, p < 12 → bt (S.1 83 d) p = X.bb d p) {p q : Nat} (hp : p < 12) (hq : q < 12) :
    ∃ S', fX11_forgets S (nI c) (nI p) (nI q) (nI i) = some ((), S') ∧ Rf c S S' ∧ (∀ p', p' < 32 → bt (S'.1 83 c) p' = (bt (S.1 83 c) p' || (decide (p' = p) && (gLa X.f X.cn X.ld X.nn q (X.f 9 c) || gAny 32 (X.ms X.bb c q))))) ∧ ∀ g, g < 32 → bt (S'.1 84 c) g = (bt (S.1 84 c) g || X.ms X.bb c q g) := by
  have hnk := hX.D.2.2.2.1.2.2.1
  have hnc := hX.D.2.1.2.2.1
  have hm := hO.1
  have hcn : c < X.nk := by rw [← hc]; exact hO.lt hX hi
  have ec : (nI c).toNatClampNeg = c := nI_clamp (by omega)
  have g32 : gib (nI c) 32 = true := gib_nI (by omega) (by decide)
  have wc := hX.D.2.2.2.1.2.2.2.1 c hcn
  obtain ⟨ct, ho, eo⟩ := gib_ex wc.2.2.2.2.2.1 (by omega)
  have eo2 : (X.f 8 c).toNatClampNeg = ct := by rw [eo, nI_clamp (by omega)]
  have ncT : ∀ d, X.Tc c d = true → d ≠ c := by
    intro d h z
    subst z
    unfold CT.Tc at h
    simp only [Bool.and_eq_true, gLb_iff] at h
    exact lat_asym h.2 h.2
  have run : ∀ S1, Rf c S S1 → ∃ S', fX11_forgets_29 FU S1 (nI c) (nI p) (nI q) (nI i) 0 = some ((), S') ∧ Rf c S S' ∧ (∀ p', p' < 32 → bt (S'.1 83 c) p' = (bt (S1.1 83 c) p' || (decide (p' = p) && gAny 32 (X.ms X.bb c q)))) ∧ ∀ g, g < 32 → bt (S'.1 84 c) g = (bt (S1.1 84 c) g || X.ms X.bb c q g) := by
    intro S1 hr1
    refine up_any (fun n (S2 : GS) k => fX11_forgets_29 n S2 (nI c) (nI p) (nI q) (nI i) k) i (fun k S2 => Rf c S S2 ∧ (∀ p', p' < 32 → bt (S2.1 83 c) p' = (bt (S1.1 83 c) p' || (decide (p' = p) && gAny k (fun j => X.ms X.bb c q (o j))))) ∧ ∀ g, g < 32 → bt (S2.1 84 c) g = (bt (S1.1 84 c) g || gAny k (fun j => decide (o j = g) && X.ms X.bb c q g))) (fun r => ∃ S', r = some ((), S') ∧ Rf c S S' ∧ (∀ p', p' < 32 → bt (S'.1 83 c) p' = (bt (S1.1 83 c) p' || (decide (p' = p) && gAny 32 (X.ms X.bb c q)))) ∧ ∀ g, g < 32 → bt (S'.1 84 c) g = (bt (S1.1 84 c) g || X.ms X.bb c q g))
      (fun n S2 h => ?_) (fun n k S2 hk h => Or.inr ?_) S1 ⟨hr1, fun p' _ => (by simp [gAny_0]), fun g _ => (by simp [gAny_0])⟩ FU (FU_gt (by omega))
    · show ∃ S', fX11_forgets_29 (n + 1) S2 (nI c) (nI p) (nI q) (nI i) (nI i) = _ ∧ _
      rw [fX11_forgets_29, if_pos (nI_le (Nat.le_refl _) (by omega))]
      obtain ⟨h1, h2, h3⟩ := h
      refine ⟨S2, rfl, h1, fun p' hp' => ?_, fun g hg => ?_⟩
      · rw [h2 p' hp']
        congr 2
        apply bool_iff
        simp only [gAny_iff]
        constructor
        · rintro ⟨j, j1, j2⟩
          exact ⟨o j, by have := hO.lt hX (show j < m by omega); omega, j2⟩
        · rintro ⟨g, g1, g2⟩
          have := CT.ms_T g2
          rw [← hc] at this
          obtain ⟨j, j1, j2⟩ := (hO.Tc hX hi g).mp this
          exact ⟨j, j1, by rw [j2]; exact g2⟩
      · rw [h3 g hg]
        congr 1
        apply bool_iff
        simp only [gAny_iff, Bool.and_eq_true, decide_eq_true_eq]
        constructor
        · rintro ⟨j, j1, j2, j3⟩; exact j3
        · intro g2
          have := CT.ms_T g2
          rw [← hc] at this
          obtain ⟨j, j1, j2⟩ := (hO.Tc hX hi g).mp this
          exact ⟨j, j1, j2, g2⟩
    · show ∃ s', fX11_forgets_29 (n + 1) S2 (nI c) (nI p) (nI q) (nI i) (nI k) = fX11_forgets_29 n s' (nI c) (nI p) (nI q) (nI i) (nI (k + 1)) ∧ _
      obtain ⟨h1, h2, h3⟩ := h
      have ol := hO.lt hX (show k < m by omega)
      have hTk : X.Tc c (o k) = true := by rw [← hc]; exact (hO.Tc hX hi _).mpr ⟨k, hk, rfl⟩
      have hF2 := hF.rff h1
      have hM2 := hM.rff h1
      have hW2 := hW.rff h1
      have hO2 := hO.rff h1
      have r67 : S2.1 67 c = X.f 9 c := by rw [hF2.1 67 (by decide) (by decide), wc.2.1]
      have r69 : S2.1 69 c = X.f 11 c := by rw [hF2.1 69 (by decide) (by decide), wc.2.2.2.1]
      rw [fX11_forgets_29, if_neg (nI_ge hk (by omega)), if_pos (gib_nI (show k < 32 by omega) (by decide)), nI_clamp (show k < 2 ^ 31 by omega), (hO2.2.1 k (by omega)).1, glet_s, if_pos g32, ec, r67, r69]
      obtain ⟨S3, a1, a2⟩ := m_good (B := X.bb) (F := X.f 11 c) (day := X.f 9 c) hX hR hF2 hM2 hW2 hTk hq (by rw [(h1.2.2.1 _ (ncT _ hTk)).1]; exact hB _ hTk q hq)
      rw [a1, gbd_s]
      simp only [gz_0, glet_s, nI_1]
      have w2 := CT.wt_2 (X := X) (T := X.Tc c) (B := X.bb) (day := X.f 9 c) (p := q) (ct := ct) (d := o k) (F := X.f 11 c) hTk
      have w3 : X.ms X.bb c q (o k) = (X.gd (X.Tc c) X.bb (X.f 9 c) (o k) q (X.f 11 c) && gBd X.f X.cn X.ld X.nn (X.Tc c) (X.u (X.Tc c)) X.t0 (X.f 9 c) (o k) q ct (X.f 11 c)) := by
        unfold CT.ms; rw [eo2]; exact w2
      have skip : ∀ S4, Rf c S S4 → S4.1 83 c = S2.1 83 c → S4.1 84 c = S2.1 84 c → X.ms X.bb c q (o k) = false → ∃ s', fX11_forgets_29 n S4 (nI c) (nI p) (nI q) (nI i) (nI (k + 1)) = fX11_forgets_29 n s' (nI c) (nI p) (nI q) (nI i) (nI (k + 1)) ∧ Rf c S s' ∧ (∀ p', p' < 32 → bt (s'.1 83 c) p' = (bt (S1.1 83 c) p' || (decide (p' = p) && gAny (k + 1) (fun j => X.ms X.bb c q (o j))))) ∧ ∀ g, g < 32 → bt (s'.1 84 c) g = (bt (S1.1 84 c) g || gAny (k + 1) (fun j => decide (o j = g) && X.ms X.bb c q g)) := by
        intro S4 g1 g2 g3 hz
        refine ⟨S4, rfl, g1, fun p' hp' => ?_, fun g hg => ?_⟩
        · rw [g2, h2 p' hp', gAny_s, hz, Bool.or_false]
        · rw [g3, h3 g hg, gAny_s]
          by_cases z : o k = g
          · rw [← z, hz]; simp
          · simp [z]
      cases hg : X.gd (X.Tc c) X.bb (X.f 9 c) (o k) q (X.f 11 c)
      · rw [if_pos rfl]
        exact skip S3 (h1.tr a2.rff) (by rw [a2.1 83 (by decide)]) (by rw [a2.1 84 (by decide)]) (by rw [w3, hg]; rfl)
      · rw [if_neg (by decide)]
        have hF3 := hF2.me a2
        have q66 : S3.1 66 c = nI ct := by rw [hF3.1 66 (by decide) (by decide), wc.1, eo]
        have q67 : S3.1 67 c = X.f 9 c := by rw [hF3.1 67 (by decide) (by decide), wc.2.1]
        have q69 : S3.1 69 c = X.f 11 c := by rw [hF3.1 69 (by decide) (by decide), wc.2.2.2.1]
        obtain ⟨S4, b1, b2⟩ := m_binding (F := X.f 11 c) (day := X.f 9 c) hX hR hF3 (hM2.me a2) (hW2.me a2) ol hq ho
        rw [q66, q67, q69, b1, gbd_s]
        simp only [gz_0]
        have g83 : S4.1 83 c = S2.1 83 c := by rw [b2.1 83 (by decide), a2.1 83 (by decide)]
        have g84 : S4.1 84 c = S2.1 84 c := by rw [b2.1 84 (by decide), a2.1 84 (by decide)]
        have r4 := (h1.tr a2.rff).tr (b2.rff (c := c))
        cases hb : gBd X.f X.cn X.ld X.nn (X.Tc c) (X.u (X.Tc c)) X.t0 (X.f 9 c) (o k) q ct (X.f 11 c)
        · rw [if_pos rfl]
          exact skip S4 r4 g83 g84 (by rw [w3, hg, hb]; rfl)
        · rw [if_neg (by decide)]
          have hms : X.ms X.bb c q (o k) = true := by rw [w3, hg, hb]; rfl
          have e84 : (gsi S4 83 c (S4.1 83 c ||| 1 <<< (nI p &&& 31))).1 84 c = S4.1 84 c := by rw [gsi_ne (by decide)]
          rw [e84]
          refine ⟨_, rfl, (r4.p83 _).p84 _, fun p' hp' => ?_, fun g hg => ?_⟩
          · rw [gsi_ne (by decide), gsi_r, if_pos ⟨rfl, rfl⟩, g83]
            apply bool_iff
            rw [b_put (show p < 32 by omega) hp', h2 p' hp', gAny_s, hms, Bool.or_true]
            by_cases z : p' = p
            · simp [z]
            · simp [z]
          · rw [gsi_r, if_pos ⟨rfl, rfl⟩, g84]
            apply bool_iff
            rw [b_put (show o k < 32 by omega) hg, h3 g hg, gAny_s]
            by_cases z : o k = g
            · subst z; simp [hms]
            · have z2 : ¬ g = o k := fun q => z q.symm
              simp [z, z2]
  unfold fX11_forgets
  rw [if_pos g32, ec, hF.1 67 (by decide) (by decide), wc.2.1, m_laid hX hF hM hq, gbv_s]
  simp only [gz_0, glet_s]
  cases hl : gLa X.f X.cn X.ld X.nn q (X.f 9 c)
  · rw [if_pos rfl]
    obtain ⟨S', b1, b2, b3, b4⟩ := run S Rf.rf
    exact ⟨S', b1, b2, fun p' hp' => by rw [b3 p' hp', Bool.false_or], b4⟩
  · rw [if_neg (by decide)]
    obtain ⟨S', b1, b2, b3, b4⟩ := run (gsi S 83 c (S.1 83 c ||| 1 <<< (nI p &&& 31))) (Rf.rf.p83 _)
    refine ⟨S', b1, b2, fun p' hp' => ?_, fun g hg => by rw [b4 g hg, gsi_ne (by decide)]⟩
    rw [b3 p' hp', gsi_r, if_pos ⟨rfl, rfl⟩, b_or, b_one (show p < 32 by omega) hp', Bool.true_or]
    by_cases z : p' = p
    · simp [z]
    · simp [z]
end

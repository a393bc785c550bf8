/-! what is known on a day: opposed points, opinions, treatments, statutes (the class) -/
theorem gib_all {x : Int32} {N : Nat} (h : gib x N = true) (hN : N < 2 ^ 31) : x.toNatClampNeg < N ∧ x = nI x.toNatClampNeg := ⟨(gib_c h hN).1, (gib_c h hN).2.symm⟩
theorem x_areOpp {S : GS} {a b : Nat} (ha : a < 12) (hb : b < 32) : fX5_areOpposed S (nI a) (nI b) = some (gz (bt (S.1 6 a) b)) := by
  unfold fX5_areOpposed
  rw [if_pos (gib_nI ha (by decide)), nI_clamp (by omega), x_has _ hb, gbv_s, if_pos (gzb _)]
def gAg (f : Nat → Nat → Int32) (ld : Nat → Nat) (a b p q : Nat) : Prop := bt (f 6 a) b = true ∧ ld a ≠ ld b ∧ ld a = p ∧ ld b = q
/-- setting a bit: the new set of bits -/
theorem b_put {x : Int32} {j : Nat} (hj : j < 32) {c : Nat} (hc : c < 32) : (bt (x ||| (1 : Int32) <<< (nI j &&& 31)) c = true) ↔ (bt x c = true ∨ c = j) := by
  rw [b_or, b_one hj hc]
  simp
theorem x_seeOpposed {S S0 : GS} {np : Nat} {ld : Nat → Nat} (hnp : np ≤ 12) (h5 : S0.1 5 0 = nI np) (hF : Fr [36, 37, 47] S0 S) (hl : ∀ p, p < np → S.1 37 p = nI (ld p)) (hl2 : ∀ p, p < np → ld p < np) :
    ∃ S', fX3_seeOpposed S = some ((), S') ∧ Fr [38] S S' ∧ ∀ p, p < 12 → ∀ q, q < 32 → (bt (S'.1 38 p) q = true ↔ ∃ a b, a < np ∧ b < np ∧ gAg S0.1 ld a b p q) := by
  unfold fX3_seeOpposed
  obtain ⟨S1, h1, h2, h3⟩ := x_fill (S := S) (a := 38) rfl (by decide) 0
  rw [h1, gbd_s, glet_s]
  have at' : ∀ S2, Fr [38] S S2 → ∀ c, c ≠ 36 → c ≠ 47 → c ≠ 37 → c ≠ 38 → ∀ j, S2.1 c j = S0.1 c j := fun S2 h c h1 h2 h3 h4 j => by rw [h.at c (by simp [h4]), hF.at c (by simp [h1, h2, h3])]
  obtain ⟨S', q1, q2, q3⟩ := up_loop (fun n S i => fX3_seeOpposed_10 n S i) np (fun i S2 => Fr [38] S S2 ∧ ∀ p, p < 12 → ∀ q, q < 32 → (bt (S2.1 38 p) q = true ↔ ∃ a b, a < i ∧ b < np ∧ gAg S0.1 ld a b p q)) (fun S => some ((), S))
    (fun n S2 h => by rw [fX3_seeOpposed_10, at' S2 h.1 5 (by decide) (by decide) (by decide) (by decide), h5, if_pos (nI_le (Nat.le_refl _) (by omega))])
    (fun n a S2 ha h => by
      rw [fX3_seeOpposed_10, at' S2 h.1 5 (by decide) (by decide) (by decide) (by decide), h5, if_neg (nI_ge ha (by omega)), glet_s]
      obtain ⟨S3, r1, r2, r3⟩ := up_loop (fun n' S i => fX3_seeOpposed_23 (fX3_seeOpposed_10 n) n' S (nI a) i) np (fun b S2 => Fr [38] S S2 ∧ ∀ p, p < 12 → ∀ q, q < 32 → (bt (S2.1 38 p) q = true ↔ ∃ a' b', (a' < a ∧ b' < np ∨ a' = a ∧ b' < b) ∧ gAg S0.1 ld a' b' p q)) (fun S => fX3_seeOpposed_10 n S (nI (a + 1)))
        (fun n' S2 h => by rw [fX3_seeOpposed_23, at' S2 h.1 5 (by decide) (by decide) (by decide) (by decide), h5, if_pos (nI_le (Nat.le_refl _) (by omega)), glet_s, nI_1])
        (fun n' b S2 hb h => by
          obtain ⟨hf, hbits⟩ := h
          have ea : (nI a).toNatClampNeg = a := nI_clamp (by omega)
          have eb : (nI b).toNatClampNeg = b := nI_clamp (by omega)
          have keep : (∀ p q, ¬ gAg S0.1 ld a b p q) → Fr [38] S S2 ∧ ∀ p, p < 12 → ∀ q, q < 32 → (bt (S2.1 38 p) q = true ↔ ∃ a' b', (a' < a ∧ b' < np ∨ a' = a ∧ b' < b + 1) ∧ gAg S0.1 ld a' b' p q) := by
            intro hz
            refine ⟨hf, fun p hp q hq => ?_⟩
            rw [hbits p hp q hq]
            constructor
            · rintro ⟨a', b', hr, hg⟩
              exact ⟨a', b', by omega, hg⟩
            · rintro ⟨a', b', hr, hg⟩
              refine ⟨a', b', ?_, hg⟩
              rcases hr with hr | ⟨rfl, hr⟩
              · exact Or.inl hr
              · by_cases hbb : b' = b
                · subst hbb; exact absurd hg (hz p q)
                · exact Or.inr ⟨rfl, by omega⟩
          rw [fX3_seeOpposed_23, at' S2 hf 5 (by decide) (by decide) (by decide) (by decide), h5, if_neg (nI_ge hb (by omega)), x_areOpp (by omega) (by omega), gbv_s, at' S2 hf 6 (by decide) (by decide) (by decide) (by decide)]
          simp only [gz_0]
          cases hop : bt (S0.1 6 a) b
          · rw [if_pos rfl, glet_s, nI_1]
            exact ⟨S2, rfl, keep (fun p q hg => by have := hg.1; rw [hop] at this; cases this)⟩
          · rw [if_neg (by decide), if_pos (gib_nI (show a < 12 by omega) (by decide)), if_pos (gib_nI (show b < 12 by omega) (by decide)), ea, eb, hf.at 37 (by decide), hf.at 37 (by decide), hl a (by omega), hl b hb]
            have l1 := hl2 a (by omega)
            have l2 := hl2 b hb
            simp only [nI_eq (show ld a < 2 ^ 31 by omega) (show ld b < 2 ^ 31 by omega)]
            by_cases c : ld a = ld b
            · rw [if_pos c, glet_s, nI_1]
              exact ⟨S2, rfl, keep (fun p q hg => hg.2.1 c)⟩
            · rw [if_neg c, if_pos (gib_nI (show ld a < 12 by omega) (by decide)), nI_clamp (by omega)]
              simp only [glet_s, nI_1]
              refine ⟨_, rfl, hf.put (by simp) _ _, fun p hp q hq => ?_⟩
              by_cases hpa : p = ld a
              · subst hpa
                have : (gsi S2 38 (ld a) (S2.1 38 (ld a) ||| (1 : Int32) <<< (nI (ld b) &&& 31))).1 38 (ld a) = S2.1 38 (ld a) ||| (1 : Int32) <<< (nI (ld b) &&& 31) := by simp [gsi_r]
                rw [this, b_put (by omega) hq, hbits (ld a) (by omega) q hq]
                constructor
                · rintro (⟨a', b', hr, hg⟩ | rfl)
                  · exact ⟨a', b', by omega, hg⟩
                  · exact ⟨a, b, Or.inr ⟨rfl, by omega⟩, hop, c, rfl, rfl⟩
                · rintro ⟨a', b', hr, hg⟩
                  by_cases hbb : a' = a ∧ b' = b
                  · obtain ⟨rfl, rfl⟩ := hbb
                    exact Or.inr hg.2.2.2.symm
                  · exact Or.inl ⟨a', b', by omega, hg⟩
              · have : (gsi S2 38 (ld a) (S2.1 38 (ld a) ||| (1 : Int32) <<< (nI (ld b) &&& 31))).1 38 p = S2.1 38 p := by simp [gsi_r, hpa]
                rw [this, hbits p hp q hq]
                constructor
                · rintro ⟨a', b', hr, hg⟩
                  exact ⟨a', b', by omega, hg⟩
                · rintro ⟨a', b', hr, hg⟩
                  by_cases hbb : a' = a ∧ b' = b
                  · obtain ⟨rfl, rfl⟩ := hbb
                    exact absurd hg.2.2.1.symm hpa
                  · exact ⟨a', b', by omega, hg⟩)
        S2 ⟨h.1, fun p hp q hq => by
          rw [h.2 p hp q hq]
          constructor
          · rintro ⟨a', b', x1, x2, x3⟩; exact ⟨a', b', Or.inl ⟨x1, x2⟩, x3⟩
          · rintro ⟨a', b', (⟨x1, x2⟩ | ⟨_, x2⟩), x3⟩
            · exact ⟨a', b', x1, x2, x3⟩
            · exact absurd x2 (Nat.not_lt_zero _)⟩ FU (FU_gt (by omega))
      refine ⟨S3, r1, r2, fun p hp q hq => ?_⟩
      rw [r3 p hp q hq]
      constructor
      · rintro ⟨a', b', x1, x3⟩
        exact ⟨a', b', by omega, by omega, x3⟩
      · rintro ⟨a', b', x1, x2, x3⟩
        exact ⟨a', b', by omega, x3⟩)
    S1 ⟨h2, fun p hp q hq => by
      rw [h3 p hp, b_0]
      constructor
      · intro z; cases z
      · rintro ⟨a', b', x1, -⟩; exact absurd x1 (Nat.not_lt_zero _)⟩ FU (FU_gt (by omega))
  exact ⟨S', q1, q2, q3⟩
/-- an opinion of a case -/
def gOpn (f : Nat → Nat → Int32) (cn : Nat → Bool) (n : Nat) : Bool := cn n && decide (f 15 n ≤ 1)
def gOpc (f : Nat → Nat → Int32) (cn : Nat → Bool) (c n : Nat) : Bool := gOpn f cn n && decide ((f 17 n).toNatClampNeg = c)
theorem kind01 {f : Nat → Nat → Int32} {td np nk i : Nat} (h : IVn1 f td np nk i) : (f 15 i = 0 ∨ f 15 i = 1) = (f 15 i ≤ 1) := by
  obtain ⟨j, hj, e⟩ := gib_ex h.2.2.1 (by decide)
  rw [e]
  apply propext
  show (nI j = nI 0 ∨ nI j = nI 1) ↔ nI j ≤ nI 1
  rw [nI_eq (by omega) (by decide), nI_eq (by omega) (by decide), nI_leI (by omega) (by decide)]
  omega
theorem x_isOpinion {S S0 : GS} {td np nk n : Nat} {b : Bool} (hn : n < 120) (h : S.1 47 n = gz b) (h15 : S.1 15 n = S0.1 15 n) (hi : IVn1 S0.1 td np nk n) : fX3_isOpinion S (nI n) = some (gz (b && decide (S0.1 15 n ≤ 1))) := by
  unfold fX3_isOpinion
  rw [x_counts hn h, x_counts hn h, gbv_s, gbv_s, h15]
  have e := kind01 hi
  simp only [gz_0]
  have e2 : (decide (S0.1 15 n ≤ 1)) = (decide (S0.1 15 n = 0) || decide (S0.1 15 n = 1)) := by rw [← Bool.decide_or]; congr 1; exact e.symm
  rw [e2]
  cases b <;> by_cases c0 : S0.1 15 n = 0 <;> by_cases c1 : S0.1 15 n = 1 <;> simp [c0, c1, gz]
theorem opc_sum {f : Nat → Nat → Int32} {cn : Nat → Bool} (nk : Nat) : ∀ m, fb_sm (fun c => fb_ct (gOpc f cn c) m) nk ≤ m := by
  intro m
  induction m with
  | zero =>
    have : (fun c => fb_ct (gOpc f cn c) 0) = fun _ => 0 := rfl
    rw [this, fb_sm_const]; omega
  | succ m ih =>
    have e : (fun c => fb_ct (gOpc f cn c) (m + 1)) = fun c => fb_ct (gOpc f cn c) m + (if gOpc f cn c m then 1 else 0) := by funext c; exact fb_ct_succ _ _
    rw [e, fb_sm_add]
    have one : ∀ k, fb_sm (fun c => if gOpc f cn c m then 1 else 0) k ≤ 1 ∧ (k ≤ (f 17 m).toNatClampNeg → fb_sm (fun c => if gOpc f cn c m then 1 else 0) k = 0) := by
      intro k
      induction k with
      | zero => exact ⟨by simp [fb_sm], fun _ => rfl⟩
      | succ k ih2 =>
        rw [fb_sm_succ]
        by_cases hk : (f 17 m).toNatClampNeg = k
        · have := ih2.2 (by omega)
          rw [this]
          refine ⟨?_, fun q => by omega⟩
          by_cases hz : gOpc f cn k m = true
          · simp [hz]
          · simp [hz]
        · have hz : gOpc f cn k m = false := by simp [gOpc, hk]
          rw [hz]
          simp
          exact ⟨ih2.1, fun q => ih2.2 (by omega)⟩
    have := (one nk).1
    omega
theorem x_seeOpinions {S S0 : GS} {td np nk nn : Nat} {cn : Nat → Bool} {ld : Nat → Nat} (hnp : np ≤ 12) (hnk : nk ≤ 32) (hnn : nn ≤ 120) (h7 : S0.1 7 0 = nI nk) (h14 : S0.1 14 0 = nI nn) (hi : ∀ i, i < nn → IVn1 S0.1 td np nk i) (hF : Fr [36, 37, 38, 47] S0 S) (hc : ∀ i, i < nn → S.1 47 i = gz (cn i)) (hl : ∀ p, p < np → S.1 37 p = nI (ld p)) (hl2 : ∀ p, p < np → ld p < np) :
    ∃ S', fX3_seeOpinions S = some ((), S') ∧ Fr [42, 43, 44, 45] S S' ∧ (∀ p, p < 12 → ∀ c, c < 32 → (bt (S'.1 42 p) c = true ↔ ∃ n, n < nn ∧ gOpc S0.1 cn c n = true ∧ ld (S0.1 19 n).toNatClampNeg = p)) ∧
      ∀ c, c < nk → ∃ s e, s ≤ e ∧ e ≤ 120 ∧ S'.1 44 c = nI s ∧ S'.1 45 c = nI e ∧ (∀ i, s ≤ i → i < e → ∃ n, n < nn ∧ S'.1 43 i = nI n ∧ gOpc S0.1 cn c n = true) ∧ (∀ n, n < nn → gOpc S0.1 cn c n = true → ∃ i, s ≤ i ∧ i < e ∧ S'.1 43 i = nI n) := by
  obtain ⟨ct, hct⟩ : ∃ ct : Nat → Nat → Nat, ct = fun c m => fb_ct (gOpc S0.1 cn c) m := ⟨_, rfl⟩
  obtain ⟨sm, hsm⟩ : ∃ sm : Nat → Nat, sm = fun c => fb_sm (fun c => ct c nn) c := ⟨_, rfl⟩
  have ct0 : ∀ c, ct c 0 = 0 := fun c => by rw [hct]; rfl
  have ctS : ∀ c m, ct c (m + 1) = ct c m + (if gOpc S0.1 cn c m = true then 1 else 0) := fun c m => by rw [hct]; exact fb_ct_succ _ _
  have ctM : ∀ c m n, m ≤ n → ct c m ≤ ct c n := fun c m n h => by rw [hct]; exact fb_ct_mono _ h
  have sm0 : sm 0 = 0 := by rw [hsm]; rfl
  have smS : ∀ c, sm (c + 1) = sm c + ct c nn := fun c => by rw [hsm]; exact fb_sm_succ _ _
  have smM : ∀ c d, c ≤ d → sm c ≤ sm d := fun c d h => by
    obtain ⟨e, rfl⟩ := Nat.exists_eq_add_of_le h
    rw [hsm]; exact fb_sm_mono _ _ _
  have smT : sm nk ≤ nn := by rw [hsm, hct]; exact opc_sum nk nn
  have smN : ∀ c, c < nk → sm c + ct c nn ≤ nn := fun c h => by have := smM (c + 1) nk (by omega); rw [smS] at this; omega
  have at' : ∀ S2, Fr [42, 43, 44, 45] S S2 → ∀ c, c ≠ 36 → c ≠ 37 → c ≠ 38 → c ≠ 47 → c ≠ 42 → c ≠ 43 → c ≠ 44 → c ≠ 45 → ∀ j, S2.1 c j = S0.1 c j := fun S2 h c h1 h2 h3 h4 h5 h6 h7 h8 j => by rw [h.at c (by simp [h5, h6, h7, h8]), hF.at c (by simp [h1, h2, h3, h4])]
  have e14 : ∀ S2, Fr [42, 43, 44, 45] S S2 → S2.1 14 0 = nI nn := fun S2 h => by rw [at' S2 h 14 (by decide) (by decide) (by decide) (by decide) (by decide) (by decide) (by decide) (by decide), h14]
  have opin : ∀ S2, Fr [42, 43, 44, 45] S S2 → ∀ i, i < nn → fX3_isOpinion S2 (nI i) = some (gz (gOpn S0.1 cn i)) := fun S2 h i hin =>
    x_isOpinion (S0 := S0) (td := td) (np := np) (nk := nk) (by omega) (by rw [h.at 47 (by decide)]; exact hc i hin) (at' S2 h 15 (by decide) (by decide) (by decide) (by decide) (by decide) (by decide) (by decide) (by decide) i) (hi i hin)
  have opk : ∀ i, i < nn → gOpn S0.1 cn i = true → (S0.1 17 i).toNatClampNeg < nk ∧ gib (S0.1 17 i) nk = true ∧ (S0.1 19 i).toNatClampNeg < np ∧ gib (S0.1 19 i) np = true := by
    intro i hin hop
    have h1 : S0.1 15 i ≤ 1 := by simp [gOpn] at hop; exact hop.2
    have w := (hi i hin).2.2.2.2.1 h1
    exact ⟨(gib_c w.2.2.2.2.1 (by omega)).1, w.2.2.2.2.1, (gib_c w.2.2.2.2.2.2.1 (by omega)).1, w.2.2.2.2.2.2.1⟩
  have opcn : ∀ c i, gOpn S0.1 cn i = false → gOpc S0.1 cn c i = false := fun c i h => by simp [gOpc, h]
  have opcy : ∀ c i, gOpn S0.1 cn i = true → (gOpc S0.1 cn c i = true ↔ (S0.1 17 i).toNatClampNeg = c) := fun c i h => by simp [gOpc, h]
  unfold fX3_seeOpinions
  obtain ⟨Sa, a1, a2, a3⟩ := x_fill (S := S) (a := 42) rfl (by decide) 0
  obtain ⟨Sb, b1, b2, b3⟩ := x_fill (S := Sa) (a := 45) rfl (by decide) 0
  have hab : Fr [42, 43, 44, 45] S Sb := (a2.tr b2).mono (by simp)
  have h42b : ∀ p, p < 12 → Sb.1 42 p = 0 := fun p hp => by rw [b2.at 42 (by decide)]; exact a3 p hp
  rw [a1, gbd_s, b1, gbd_s, glet_s]
  -- first loop: how many
  obtain ⟨S1, c1, c2, c3, c4⟩ := up_loop (fun n S i => fX3_seeOpinions_18 n S i) nn (fun i S2 => Fr [42, 43, 44, 45] S S2 ∧ (∀ p, p < 12 → S2.1 42 p = 0) ∧ ∀ c, c < nk → S2.1 45 c = nI (ct c i)) (fun S => fX3_seeOpinions_65 FU S (nI 0) (nI 0))
    (fun n S2 h => by rw [fX3_seeOpinions_18, e14 S2 h.1, if_pos (nI_le (Nat.le_refl _) (by omega))]; rfl)
    (fun n i S2 hin h => by
      obtain ⟨hf, h42, h45⟩ := h
      rw [fX3_seeOpinions_18, e14 S2 hf, if_neg (nI_ge hin (by omega)), opin S2 hf i hin, gbv_s]
      simp only [gz_0]
      cases hop : gOpn S0.1 cn i
      · rw [if_pos rfl, glet_s, nI_1]
        exact ⟨S2, rfl, hf, h42, fun c hcn => by rw [ctS, opcn c i hop]; simpa using h45 c hcn⟩
      · obtain ⟨k1, k2, k3, k4⟩ := opk i hin hop
        rw [if_neg (by decide), if_pos (gib_nI (show i < 120 by omega) (by decide)), nI_clamp (by omega), at' S2 hf 17 (by decide) (by decide) (by decide) (by decide) (by decide) (by decide) (by decide) (by decide), if_pos (gib_ge k2 hnk), h45 _ k1, nI_1]
        simp only [glet_s, nI_1]
        refine ⟨_, rfl, hf.put (by simp) _ _, fun p hp => by simpa [gsi_r] using h42 p hp, fun c hcn => ?_⟩
        rw [ctS]
        by_cases hcc : c = (S0.1 17 i).toNatClampNeg
        · rw [if_pos ((opcy c i hop).mpr hcc.symm), hcc]; simp [gsi_r]
        · rw [if_neg (fun q => hcc ((opcy c i hop).mp q).symm)]; simpa [gsi_r, hcc] using h45 c hcn)
    Sb ⟨hab, h42b, fun c hcn => by rw [ct0, b3 c (by show c < 32; omega)]; rfl⟩ FU (FU_gt (by omega))
  rw [show (0 : Int32) = nI 0 from rfl, c1]
  -- second loop: where they begin
  obtain ⟨S2, d1, d2, d3, d4⟩ : ∃ S2, fX3_seeOpinions_65 FU S1 (nI 0) (nI 0) = fX3_seeOpinions_112 FU S2 (nI 0) ∧ Fr [42, 43, 44, 45] S S2 ∧ (∀ p, p < 12 → S2.1 42 p = 0) ∧ ∀ c, c < nk → S2.1 44 c = nI (sm c) ∧ S2.1 45 c = nI (sm c) := by
    have key : ∀ r j S2 n, j + r = nk → r < n → Fr [42, 43, 44, 45] S S2 → (∀ p, p < 12 → S2.1 42 p = 0) → (∀ c, c < j → S2.1 44 c = nI (sm c) ∧ S2.1 45 c = nI (sm c)) → (∀ c, j ≤ c → c < nk → S2.1 45 c = nI (ct c nn)) → ∃ S3, fX3_seeOpinions_65 n S2 (nI (sm j)) (nI j) = fX3_seeOpinions_112 FU S3 (nI 0) ∧ Fr [42, 43, 44, 45] S S3 ∧ (∀ p, p < 12 → S3.1 42 p = 0) ∧ ∀ c, c < nk → S3.1 44 c = nI (sm c) ∧ S3.1 45 c = nI (sm c) := by
      intro r
      induction r with
      | zero =>
        intro j S2 n hj hn hf h42 h1 h2
        obtain ⟨n, rfl⟩ := Nat.exists_eq_add_of_lt hn
        have : j = nk := by omega
        subst this
        refine ⟨S2, ?_, hf, h42, h1⟩
        rw [show 0 + n + 1 = n + 1 by omega, fX3_seeOpinions_65, at' S2 hf 7 (by decide) (by decide) (by decide) (by decide) (by decide) (by decide) (by decide) (by decide), h7, if_pos (nI_le (Nat.le_refl _) (by omega))]
        rfl
      | succ r ih =>
        intro j S2 n hj hn hf h42 h1 h2
        obtain ⟨n, rfl⟩ := Nat.exists_eq_add_of_lt hn
        have ej : (nI j).toNatClampNeg = j := nI_clamp (by omega)
        obtain ⟨S3, hS3⟩ : ∃ S3, S3 = gsi (gsi S2 44 j (nI (sm j))) 45 j (nI (sm j)) := ⟨_, rfl⟩
        have hstep : fX3_seeOpinions_65 (r + 1 + n + 1) S2 (nI (sm j)) (nI j) = fX3_seeOpinions_65 (r + 1 + n) S3 (nI (sm (j + 1))) (nI (j + 1)) := by
          rw [fX3_seeOpinions_65, at' S2 hf 7 (by decide) (by decide) (by decide) (by decide) (by decide) (by decide) (by decide) (by decide), h7, if_neg (nI_ge (by omega) (by omega)), if_pos (gib_nI (show j < 32 by omega) (by decide)), ej]
          have z1 : (gsi S2 44 j (nI (sm j))).1 45 j = nI (ct j nn) := by simpa [gsi_r] using h2 j (Nat.le_refl _) (by omega)
          have z2 : (gsi S2 44 j (nI (sm j))).1 44 j = nI (sm j) := by simp [gsi_r]
          simp only [glet_s, z1, z2, nI_add, nI_1]
          rw [smS, hS3]
        rw [hstep]
        refine ih (j + 1) S3 (r + 1 + n) (by omega) (by omega) (by rw [hS3]; exact (hf.put (by simp) _ _).put (by simp) _ _) (fun p hp => by rw [hS3]; simpa [gsi_r] using h42 p hp) (fun c hcj => ?_) (fun c hcj hcn => ?_)
        · rw [hS3]
          by_cases hcc : c = j
          · subst hcc; simp [gsi_r]
          · simp [gsi_r, hcc]; exact h1 c (by omega)
        · have : c ≠ j := by omega
          rw [hS3]; simp [gsi_r, this]; exact h2 c (by omega) hcn
    have := key nk 0 S1 FU (by omega) (FU_gt (by omega)) c2 c3 (fun c h => absurd h (Nat.not_lt_zero c)) (fun c _ h => c4 c h)
    rw [sm0] at this
    exact this
  rw [d1]
  -- third loop: they are laid down
  obtain ⟨S3, f1, f2, f3, f4, f5, f6⟩ := up_loop (fun n S i => fX3_seeOpinions_112 n S i) nn (fun i S2 => Fr [42, 43, 44, 45] S S2 ∧ (∀ p, p < 12 → ∀ c, c < 32 → (bt (S2.1 42 p) c = true ↔ ∃ n, n < i ∧ gOpc S0.1 cn c n = true ∧ ld (S0.1 19 n).toNatClampNeg = p)) ∧ (∀ c, c < nk → S2.1 44 c = nI (sm c)) ∧ (∀ c, c < nk → S2.1 45 c = nI (sm c + ct c i)) ∧ ∀ c, c < nk → ∀ n, n < i → gOpc S0.1 cn c n = true → S2.1 43 (sm c + ct c n) = nI n) (fun S => some ((), S))
    (fun n S2 h => by rw [fX3_seeOpinions_112, e14 S2 h.1, if_pos (nI_le (Nat.le_refl _) (by omega))])
    (fun n i S2 hin h => by
      obtain ⟨hf, h42, h44, h45, h43⟩ := h
      rw [fX3_seeOpinions_112, e14 S2 hf, if_neg (nI_ge hin (by omega)), opin S2 hf i hin, gbv_s]
      simp only [gz_0]
      cases hop : gOpn S0.1 cn i
      · rw [if_pos rfl, glet_s, nI_1]
        refine ⟨S2, rfl, hf, fun p hp c hcc => ?_, h44, fun c hcn => by rw [ctS, opcn c i hop]; simpa using h45 c hcn, fun c hcn n hn hg => ?_⟩
        · rw [h42 p hp c hcc]
          constructor
          · rintro ⟨n, x1, x2⟩; exact ⟨n, by omega, x2⟩
          · rintro ⟨n, x1, x2, x3⟩
            by_cases hni : n = i
            · subst hni; rw [opcn c n hop] at x2; cases x2
            · exact ⟨n, by omega, x2, x3⟩
        · by_cases hni : n = i
          · subst hni; rw [opcn c n hop] at hg; cases hg
          · exact h43 c hcn n (by omega) hg
      · obtain ⟨k1, k2, k3, k4⟩ := opk i hin hop
        obtain ⟨d, hd⟩ : ∃ d, d = (S0.1 17 i).toNatClampNeg := ⟨_, rfl⟩
        have ed : S0.1 17 i = nI d := by rw [hd]; exact (gib_all k2 (by omega)).2
        have hdk : d < nk := by rw [hd]; exact k1
        have hle := hl2 _ k3
        have hdi : gOpc S0.1 cn d i = true := (opcy d i hop).mpr hd.symm
        have hroom : sm d + ct d i < 120 := by
          have := smN d hdk
          have h2 := ctM d (i + 1) nn (by omega)
          rw [ctS, if_pos hdi] at h2
          omega
        rw [if_neg (by decide), if_pos (gib_nI (show i < 120 by omega) (by decide)), nI_clamp (by omega), at' S2 hf 17 (by decide) (by decide) (by decide) (by decide) (by decide) (by decide) (by decide) (by decide), at' S2 hf 19 (by decide) (by decide) (by decide) (by decide) (by decide) (by decide) (by decide) (by decide), ed, glet_s, if_pos (gib_ge k4 hnp), hf.at 37 (by decide), hl _ k3, if_pos (gib_nI (show ld (S0.1 19 i).toNatClampNeg < 12 by omega) (by decide)), nI_clamp (show ld (S0.1 19 i).toNatClampNeg < 2 ^ 31 by omega)]
        obtain ⟨pl, hpl⟩ : ∃ pl, pl = ld (S0.1 19 i).toNatClampNeg := ⟨_, rfl⟩
        rw [← hpl]
        have z45 : (gsi S2 42 pl (S2.1 42 pl ||| (1 : Int32) <<< (nI d &&& 31))).1 45 d = nI (sm d + ct d i) := by simpa [gsi_r] using h45 d hdk
        simp only [glet_s, if_pos (gib_nI (show d < 32 by omega) (show (32 : Nat) < 2 ^ 31 by decide)), nI_clamp (show d < 2 ^ 31 by omega), z45, if_pos (gib_nI hroom (by decide)), nI_clamp (show sm d + ct d i < 2 ^ 31 by omega), nI_1]
        have z45b : (gsi (gsi S2 42 pl (S2.1 42 pl ||| (1 : Int32) <<< (nI d &&& 31))) 43 (sm d + ct d i) (nI i)).1 45 d = nI (sm d + ct d i) := by simpa [gsi_r] using h45 d hdk
        rw [z45b, nI_1]
        refine ⟨_, rfl, ((hf.put (by simp) _ _).put (by simp) _ _).put (by simp) _ _, fun p hp c hcc => ?_, fun c hcn => by simpa [gsi_r] using h44 c hcn, fun c hcn => ?_, fun c hcn n hn hg => ?_⟩
        · by_cases hpp : p = pl
          · have e : (gsi (gsi (gsi S2 42 pl (S2.1 42 pl ||| (1 : Int32) <<< (nI d &&& 31))) 43 (sm d + ct d i) (nI i)) 45 d (nI (sm d + ct d i + 1))).1 42 p = S2.1 42 p ||| (1 : Int32) <<< (nI d &&& 31) := by simp [gsi_r, hpp]
            rw [e, b_put (by omega) hcc, h42 p hp c hcc]
            constructor
            · rintro (⟨n, x1, x2⟩ | rfl)
              · exact ⟨n, by omega, x2⟩
              · exact ⟨i, by omega, hdi, by rw [hpp, hpl]⟩
            · rintro ⟨n, x1, x2, x3⟩
              by_cases hni : n = i
              · subst hni; exact Or.inr (((opcy c n hop).mp x2).symm.trans hd.symm)
              · exact Or.inl ⟨n, by omega, x2, x3⟩
          · have e : (gsi (gsi (gsi S2 42 pl (S2.1 42 pl ||| (1 : Int32) <<< (nI d &&& 31))) 43 (sm d + ct d i) (nI i)) 45 d (nI (sm d + ct d i + 1))).1 42 p = S2.1 42 p := by simp [gsi_r, hpp]
            rw [e, h42 p hp c hcc]
            constructor
            · rintro ⟨n, x1, x2⟩; exact ⟨n, by omega, x2⟩
            · rintro ⟨n, x1, x2, x3⟩
              by_cases hni : n = i
              · subst hni; exact absurd (hpl.trans x3).symm hpp
              · exact ⟨n, by omega, x2, x3⟩
        · rw [ctS]
          by_cases hcd : c = d
          · subst hcd; rw [if_pos hdi]; simp [gsi_r]; rfl
          · rw [if_neg (fun q => hcd (((opcy c i hop).mp q).symm.trans hd.symm))]; simpa [gsi_r, hcd] using h45 c hcn
        · by_cases hni : n = i
          · subst hni
            have : c = d := ((opcy c n hop).mp hg).symm.trans hd.symm
            subst this
            simp [gsi_r]
          · have hne : sm c + ct c n ≠ sm d + ct d i := by
              have h1 := ctM c (n + 1) i (by omega)
              rw [ctS, if_pos hg] at h1
              have h2 := ctM c (n + 1) nn (by omega)
              rw [ctS, if_pos hg] at h2
              have h3 := ctM d (i + 1) nn (by omega)
              rw [ctS, if_pos hdi] at h3
              rcases Nat.lt_trichotomy c d with q | q | q
              · have h4 := smM (c + 1) d (by omega)
                rw [smS] at h4
                omega
              · subst q; omega
              · have h4 := smM (d + 1) c (by omega)
                rw [smS] at h4
                omega
            simp [gsi_r, hne]
            exact h43 c hcn n (by omega) hg)
    S2 ⟨d2, fun p hp c hcc => by
      rw [d3 p hp, b_0]
      constructor
      · intro z; cases z
      · rintro ⟨n, x1, -⟩; exact absurd x1 (Nat.not_lt_zero _), fun c hcn => (d4 c hcn).1, fun c hcn => by rw [ct0]; exact (d4 c hcn).2, fun c _ n hn => absurd hn (Nat.not_lt_zero n)⟩ FU (FU_gt (by omega))
  refine ⟨S3, f1, f2, f3, fun c hcn => ⟨sm c, sm c + ct c nn, by omega, by have := smN c hcn; omega, f4 c hcn, f5 c hcn, fun i h1 h2 => ?_, fun n hn hg => ⟨sm c + ct c n, by omega, ?_, f6 c hcn n hn hg⟩⟩⟩
  · have : i - sm c < fb_ct (gOpc S0.1 cn c) nn := by
      have e : fb_ct (gOpc S0.1 cn c) nn = ct c nn := by rw [hct]
      rw [e]; omega
    obtain ⟨n, hn, hg, hk⟩ := fb_ct_kth this
    refine ⟨n, hn, ?_, hg⟩
    have e : ct c n = i - sm c := by rw [hct]; exact hk
    have := f6 c hcn n hn hg
    rw [e, show sm c + (i - sm c) = i by omega] at this
    exact this
  · have h2 := ctM c (n + 1) nn (by omega)
    rw [ctS, if_pos hg] at h2
    omega

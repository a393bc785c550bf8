/-! what a case missed; the world seen (the class) -/
theorem gAny_bits {x : Int32} {P : Nat → Bool} (h : ∀ d, d < 32 → bt x d = P d) : (x = 0) = (gAny 32 P = false) := by
  apply propext
  constructor
  · intro hx
    apply gAny_f
    intro d hd
    rw [← h d hd, hx, b_0]
  · intro hg
    apply b_ext
    intro d hd
    rw [h d hd, b_0]
    cases hp : P d
    · rfl
    · rw [gAny_iff.mpr ⟨d, hd, hp⟩] at hg; cases hg
theorem n12 {i : Nat} (h : i < 12) : ¬ (12 : Int32) ≤ nI i := by
  show ¬ nI 12 ≤ nI i
  exact nI_ge h (by decide)
/-- only one place of one cell has changed -/
def R1 (k c : Nat) (S0 S : GS) : Prop := (∀ a, a ≠ k → S.1 a = S0.1 a) ∧ (∀ d, d ≠ c → S.1 k d = S0.1 k d) ∧ S.2.2 = S0.2.2
section
variable {X : CT} {T : Nat → Bool} {S S' S0 S1 S2 : GS} {day : Int32} {B : Nat → Nat → Bool} {k c : Nat}
theorem R1.rf : R1 k c S S := ⟨fun _ _ => rfl, fun _ _ => rfl, rfl⟩
theorem R1.tr (h : R1 k c S S1) (h2 : R1 k c S1 S2) : R1 k c S S2 := ⟨fun a b => (h2.1 a b).trans (h.1 a b), fun d e => (h2.2.1 d e).trans (h.2.1 d e), h2.2.2.trans h.2.2⟩
theorem R1.put (h : R1 k c S S1) (x : Int32) : R1 k c S (gsi S1 k c x) := by
  refine ⟨fun a ha => ?_, fun d hd => ?_, h.2.2⟩
  · rw [gsi_ne ha]; exact h.1 a ha
  · rw [gsi_r, if_neg (by rintro ⟨-, q⟩; exact hd q)]; exact h.2.1 d hd
theorem R1.le (h : R1 k c S S1) (h2 : LE S1 S2) : R1 k c S S2 := ⟨fun a b => by rw [h2.1]; exact h.1 a b, fun d e => by rw [h2.1]; exact h.2.1 d e, h2.2.trans h.2.2⟩
theorem R1.lw (h : R1 k c S S1) (hk : k = 35 ∨ k = 48 ∨ k = 49) : Lw S S1 := ⟨fun a x y z => h.1 a (by rcases hk with q | q | q <;> subst q <;> assumption), h.2.2⟩
theorem x_fm206 (hK : KZ X S) (hc : c < 32) {A4 A6 : Int32} (h0 : S.1 48 c = 0) : ∃ S', fX9_findMissed_206 FU S (nI c) A4 A6 0 = some ((), S') ∧ R1 48 c S S' ∧ ∀ p, p < 12 → bt (S'.1 48 c) p = (bt A4 p && gAny 32 (fun q => X.ag p q && bt A6 q)) := by
  obtain ⟨S', a1, a2, a3⟩ := up_loop (fun n S i => fX9_findMissed_206 n S (nI c) A4 A6 i) 12 (fun i S2 => R1 48 c S S2 ∧ ∀ p, p < 12 → bt (S2.1 48 c) p = (decide (p < i) && (bt A4 p && gAny 32 (fun q => X.ag p q && bt A6 q)))) (fun S => some ((), S))
    (fun n S2 h => by rw [fX9_findMissed_206, if_pos (show (12 : Int32) ≤ nI 12 by decide)])
    (fun n i S2 hi h => by
      obtain ⟨hr, hb⟩ := h
      have keep : (bt A4 i && gAny 32 (fun q => X.ag i q && bt A6 q)) = false → ∀ p, p < 12 → bt (S2.1 48 c) p = (decide (p < i + 1) && (bt A4 p && gAny 32 (fun q => X.ag p q && bt A6 q))) := by
        intro hz p hp
        rw [hb p hp]
        by_cases e : p = i
        · subst e; simp [hz]
        · have : (p < i + 1) = (p < i) := by apply propext; omega
          simp only [this]
      rw [fX9_findMissed_206, if_neg (n12 hi), x_has _ (show i < 32 by omega), gbv_s]
      simp only [gz_0, glet_s, nI_1]
      cases h4 : bt A4 i
      · rw [if_pos rfl]
        exact ⟨S2, rfl, hr, keep (by rw [h4]; rfl)⟩
      · rw [if_neg (by decide), if_pos (gib_nI hi (by decide)), nI_clamp (show i < 2 ^ 31 by omega), hr.1 38 (by decide)]
        have hbits : ∀ d, d < 32 → bt (S.1 38 i &&& A6) d = (X.ag i d && bt A6 d) := fun d hd => by rw [b_and, hK.2.2.1 i hi d hd]
        simp only [gAny_bits hbits]
        cases hg : gAny 32 (fun q => X.ag i q && bt A6 q)
        · rw [if_pos rfl]
          exact ⟨S2, rfl, hr, keep (by rw [hg]; simp)⟩
        · rw [if_neg (by decide), if_pos (gib_nI hc (by decide)), nI_clamp (show c < 2 ^ 31 by omega)]
          refine ⟨_, rfl, hr.put _, fun p hp => ?_⟩
          apply bool_iff
          have e : (gsi S2 48 c (S2.1 48 c ||| 1 <<< (nI i &&& 31))).1 48 c = S2.1 48 c ||| 1 <<< (nI i &&& 31) := by simp [gsi_r]
          rw [e, b_put (show i < 32 by omega) (show p < 32 by omega), hb p hp]
          by_cases e : p = i
          · subst e; simp [h4, hg]
          · have : (p < i + 1) = (p < i) := by apply propext; omega
            simp [this, e])
    S ⟨R1.rf, fun p hp => by rw [h0, b_0]; simp⟩ FU (FU_gt (by omega))
  refine ⟨S', a1, a2, fun p hp => ?_⟩
  rw [a3 p hp]; simp [hp]
theorem TX.cg {U : Nat → Bool} (h : TX T U day S) (e : S'.1 35 = S.1 35) : TX T U day S' := by unfold TX at h ⊢; rw [e]; exact h
theorem x_fm124 (hX : X.ok) (hR : X.rx) (hK : KZ X S) (hc : X.sn c = true) (hT : TX (X.Tc c) (X.u (X.Tc c)) (X.f 9 c) S) (hB : ∀ d, X.Tc c d = true → ∀ p, p < 12 → bt (S.1 48 d) p = X.bb d p) {A4 A5 : Int32} (h48 : S.1 48 c = 0) (h49 : S.1 49 c = 0) :
    ∃ S1 S', fX9_findMissed_124 FU S (nI c) (X.f 11 c) A4 A5 0 0 = some ((), S') ∧ R1 49 c S S1 ∧ R1 48 c S1 S' ∧ (∀ g, g < 32 → bt (S1.1 49 c) g = gAny 12 (fun q => bt A5 q && X.ms X.bb c q g)) ∧ ∀ p, p < 12 → bt (S'.1 48 c) p = (bt A4 p && gAny 32 (fun q => X.ag p q && (decide (q < 12) && (bt A5 q && (gLa X.f X.cn X.ld X.nn q (X.f 9 c) || gAny 32 (X.ms X.bb c q)))))) := by
  have hnk := hX.D.2.2.2.1.2.2.1
  have hnc := hX.D.2.1.2.2.1
  have hcn := hX.sn_lt c hc
  have ec : (nI c).toNatClampNeg = c := nI_clamp (by omega)
  have g32 : gib (nI c) 32 = true := gib_nI (by omega) (by decide)
  obtain ⟨o, ho, eo⟩ := gib_ex (hX.D.2.2.2.1.2.2.2.1 c hcn).2.2.2.2.2.1 (by omega)
  have eo2 : (X.f 8 c).toNatClampNeg = o := by rw [eo, nI_clamp (by omega)]
  have key : ∀ r q n S1 A6, q + r = 12 → r < n → R1 49 c S S1 → (∀ g, g < 32 → bt (S1.1 49 c) g = gAny q (fun q => bt A5 q && X.ms X.bb c q g)) → (∀ e, e < 32 → bt A6 e = (decide (e < q) && (bt A5 e && (gLa X.f X.cn X.ld X.nn e (X.f 9 c) || gAny 32 (X.ms X.bb c e))))) → ∃ Sa S', fX9_findMissed_124 n S1 (nI c) (X.f 11 c) A4 A5 A6 (nI q) = some ((), S') ∧ R1 49 c S Sa ∧ R1 48 c Sa S' ∧ (∀ g, g < 32 → bt (Sa.1 49 c) g = gAny 12 (fun q => bt A5 q && X.ms X.bb c q g)) ∧ ∀ p, p < 12 → bt (S'.1 48 c) p = (bt A4 p && gAny 32 (fun q => X.ag p q && (decide (q < 12) && (bt A5 q && (gLa X.f X.cn X.ld X.nn q (X.f 9 c) || gAny 32 (X.ms X.bb c q)))))) := by
    intro r
    induction r with
    | zero =>
      intro q n S1 A6 hq hn hr h9 h6
      obtain ⟨n, rfl⟩ := Nat.exists_eq_add_of_lt hn
      have hq12 : q = 12 := by omega
      subst hq12
      rw [show 0 + n + 1 = n + 1 by omega, fX9_findMissed_124, if_pos (show (12 : Int32) ≤ nI 12 by decide), glet_s]
      obtain ⟨S', b1, b2, b3⟩ := x_fm206 (A4 := A4) (A6 := A6) (hK.lw (hr.lw (by simp))) (show c < 32 by omega) (by rw [hr.1 48 (by decide)]; exact h48)
      refine ⟨S1, S', b1, hr, b2, h9, fun p hp => ?_⟩
      rw [b3 p hp]
      congr 1
      refine gAny_cong (fun e he => ?_)
      rw [h6 e he]
    | succ r ih =>
      intro q n S1 A6 hq hn hr h9 h6
      obtain ⟨n, rfl⟩ := Nat.exists_eq_add_of_lt hn
      have k1 := hK.lw (hr.lw (by simp))
      have t1 : TX (X.Tc c) (X.u (X.Tc c)) (X.f 9 c) S1 := hT.cg (hr.1 35 (by decide))
      rw [show r + 1 + n + 1 = (r + 1 + n) + 1 from rfl, fX9_findMissed_124, if_neg (n12 (show q < 12 by omega)), x_has _ (show q < 32 by omega), gbv_s]
      simp only [gz_0]
      cases h5 : bt A5 q
      · rw [if_pos rfl, glet_s, nI_1]
        refine ih (q + 1) _ S1 A6 (by omega) (by omega) hr (fun g hg => by rw [h9 g hg, gAny_s, h5]; simp) (fun e he => ?_)
        rw [h6 e he]
        by_cases z : e = q
        · subst z; simp [h5]
        · have : (e < q + 1) = (e < q) := by apply propext; omega
          simp only [this]
      · rw [if_neg (by decide), if_pos g32, ec, k1.1.1.1 8 (by decide), eo]
        obtain ⟨S2, M, d1, d2, d3⟩ := x_binders (B := X.bb) hX hR k1 t1 (fun d h => CT.Tc_lt hX h) (fun d h p hp => by rw [hr.1 48 (by decide)]; exact hB d h p hp) (p := q) (ct := o) (F := X.f 11 c) (by omega) ho
        have ms : ∀ g, g < 32 → bt M g = X.ms X.bb c q g := fun g hg => by rw [d3 g hg]; unfold CT.ms; rw [eo2]
        rw [d1, gbd_s, glet_s]
        have r3 : R1 49 c S (gsi S2 49 c (S2.1 49 c ||| M)) := (hr.le d2).put _
        have e3 : (gsi S2 49 c (S2.1 49 c ||| M)).1 49 c = S1.1 49 c ||| M := by rw [gsi_r, if_pos ⟨rfl, rfl⟩, d2.1]
        generalize gsi S2 49 c (S2.1 49 c ||| M) = S3 at r3 e3 ⊢
        have k3 := hK.lw (r3.lw (by simp))
        have t3 : TX (X.Tc c) (X.u (X.Tc c)) (X.f 9 c) S3 := hT.cg (r3.1 35 (by decide))
        have n9 : ∀ g, g < 32 → bt (S3.1 49 c) g = gAny (q + 1) (fun q => bt A5 q && X.ms X.bb c q g) := fun g hg => by
          rw [e3, b_or, h9 g hg, ms g hg, gAny_s, h5]; simp
        simp only [gAny_bits ms]
        unfold fX9_findMissed_186 fX9_findMissed_194
        simp only [glet_s, nI_1]
        have yes : (gLa X.f X.cn X.ld X.nn q (X.f 9 c) || gAny 32 (X.ms X.bb c q)) = true → ∃ Sa S', fX9_findMissed_124 (r + 1 + n) S3 (nI c) (X.f 11 c) A4 A5 (A6 ||| 1 <<< (nI q &&& 31)) (nI (q + 1)) = some ((), S') ∧ R1 49 c S Sa ∧ R1 48 c Sa S' ∧ (∀ g, g < 32 → bt (Sa.1 49 c) g = gAny 12 (fun q => bt A5 q && X.ms X.bb c q g)) ∧ ∀ p, p < 12 → bt (S'.1 48 c) p = (bt A4 p && gAny 32 (fun q => X.ag p q && (decide (q < 12) && (bt A5 q && (gLa X.f X.cn X.ld X.nn q (X.f 9 c) || gAny 32 (X.ms X.bb c q)))))) := by
          intro hy
          refine ih (q + 1) _ S3 _ (by omega) (by omega) r3 n9 (fun e he => ?_)
          apply bool_iff
          rw [b_put (show q < 32 by omega) he, h6 e he]
          by_cases z : e = q
          · subst z; simp only [Bool.or_eq_true] at hy; simp [h5, hy]
          · have : (e < q + 1) = (e < q) := by apply propext; omega
            simp [this, z]
        cases hg : gAny 32 (X.ms X.bb c q)
        · rw [if_pos rfl, x_laid hX.D k3.1.1 t3.1 (by omega), gbv_s]
          simp only [gz_0]
          cases hl : gLa X.f X.cn X.ld X.nn q (X.f 9 c)
          · rw [if_pos rfl]
            refine ih (q + 1) _ S3 _ (by omega) (by omega) r3 n9 (fun e he => ?_)
            rw [b_or, b_0, Bool.or_false, h6 e he]
            by_cases z : e = q
            · subst z; simp [hl, hg]
            · have : (e < q + 1) = (e < q) := by apply propext; omega
              simp only [this]
          · rw [if_neg (by decide)]
            exact yes (by rw [hl]; rfl)
        · rw [if_neg (by decide)]
          exact yes (by rw [hg]; simp)
  exact key 12 0 FU S 0 (by omega) (FU_gt (by omega)) R1.rf (fun g hg => by rw [h49, b_0]; rfl) (fun e he => by rw [b_0]; simp)
theorem CT.he_sp {p : Nat} {F : Int32} (h : X.sp p c = false) : gHe X.f X.cn X.ld X.nn c p F = false := by
  cases hh : gHe X.f X.cn X.ld X.nn c p F
  · rfl
  · rw [CT.sk_sp (he_sk hh)] at h; cases h
theorem gAny_comm {m n : Nat} {P Q : Nat → Bool} {R : Nat → Nat → Bool} : gAny m (fun p => P p && gAny n (fun q => R p q && Q q)) = gAny n (fun q => gAny m (fun p => P p && R p q) && Q q) := by
  apply bool_iff
  simp only [gAny_iff, Bool.and_eq_true]
  constructor
  · rintro ⟨p, p1, p2, q, q1, q2, q3⟩
    exact ⟨q, q1, ⟨p, p1, p2, q2⟩, q3⟩
  · rintro ⟨q, q1, ⟨p, p1, p2, q2⟩, q3⟩
    exact ⟨p, p1, p2, q, q1, q2, q3⟩
theorem x_findMissed (hX : X.ok) (hR : X.rx) (hK : KZ X S) (hc : X.sn c = true) {M : Int32} (hM : ∀ d, d < 32 → bt M d = X.Tc c d) (hB : ∀ d, X.Tc c d = true → ∀ p, p < 12 → bt (S.1 48 d) p = X.bb d p) :
    ∃ S', fX9_findMissed S (nI c) M = some ((), S') ∧ Lw S S' ∧ (∀ d, d ≠ c → S'.1 48 d = S.1 48 d ∧ S'.1 49 d = S.1 49 d) ∧ (∀ p, p < 12 → bt (S'.1 48 c) p = X.bb c p) ∧ ∀ g, g < 32 → bt (S'.1 49 c) g = X.fg c g := by
  have hnk := hX.D.2.2.2.1.2.2.1
  have hcn := hX.sn_lt c hc
  have ec : (nI c).toNatClampNeg = c := nI_clamp (by omega)
  have g32 : gib (nI c) 32 = true := gib_nI (by omega) (by decide)
  unfold fX9_findMissed
  rw [if_pos g32, ec]
  simp only [glet_s]
  have r0 : R1 48 c S (gsi S 48 c 0) := R1.rf.put _
  have r1 : R1 49 c (gsi S 48 c 0) (gsi (gsi S 48 c 0) 49 c 0) := R1.rf.put _
  have z48 : (gsi (gsi S 48 c 0) 49 c 0).1 48 c = 0 := by simp [gsi_r]
  have z49 : (gsi (gsi S 48 c 0) 49 c 0).1 49 c = 0 := by simp [gsi_r]
  have lw3 : Lw S (gsi (gsi S 48 c 0) 49 c 0) := (r0.lw (by simp)).tr (r1.lw (by simp))
  have o48 : ∀ d, d ≠ c → (gsi (gsi S 48 c 0) 49 c 0).1 48 d = S.1 48 d := fun d hd => by rw [r1.1 48 (by decide)]; exact r0.2.1 d hd
  have o49 : ∀ d, d ≠ c → (gsi (gsi S 48 c 0) 49 c 0).1 49 d = S.1 49 d := fun d hd => by rw [r1.2.1 d hd, r0.1 49 (by decide)]
  generalize gsi (gsi S 48 c 0) 49 c 0 = S3 at z48 z49 lw3 o48 o49
  have k3 := hK.lw lw3
  rw [k3.1.1.1 11 (by decide)]
  have hTcc : ∀ d, X.Tc c d = true → d ≠ c := by
    intro d h z
    subst z
    unfold CT.Tc at h
    simp only [Bool.and_eq_true, gLb_iff] at h
    exact lat_asym h.2 h.2
  have key : ∀ r p n A4 A5, p + r = 12 → r < n → (∀ e, e < 32 → bt A4 e = (decide (e < p) && gHe X.f X.cn X.ld X.nn c e (X.f 11 c))) → (∀ q, q < 32 → bt A5 q = gAny p (fun e => gHe X.f X.cn X.ld X.nn c e (X.f 11 c) && X.ag e q)) → ∃ S', fX9_findMissed_33 n S3 (nI c) M (X.f 11 c) A4 A5 (nI p) = some ((), S') ∧ Lw S S' ∧ (∀ d, d ≠ c → S'.1 48 d = S.1 48 d ∧ S'.1 49 d = S.1 49 d) ∧ (∀ p, p < 12 → bt (S'.1 48 c) p = X.bb c p) ∧ ∀ g, g < 32 → bt (S'.1 49 c) g = X.fg c g := by
    intro r
    induction r with
    | zero =>
      intro p n A4 A5 hp hn h4 h5
      obtain ⟨n, rfl⟩ := Nat.exists_eq_add_of_lt hn
      have hp12 : p = 12 := by omega
      subst hp12
      rw [show 0 + n + 1 = n + 1 by omega, fX9_findMissed_33, if_pos (show (12 : Int32) ≤ nI 12 by decide)]
      have fgq : ∀ g, g < 32 → X.fg c g = gAny 12 (fun q => bt A5 q && X.ms X.bb c q g) := fun g hg => by
        unfold CT.fg
        rw [gAny_comm]
        exact gAny_cong (fun q hq => by rw [h5 q (by omega)])
      have bbq : ∀ p, p < 12 → X.bb c p = (bt A4 p && gAny 32 (fun q => X.ag p q && (decide (q < 12) && (bt A5 q && (gLa X.f X.cn X.ld X.nn q (X.f 9 c) || gAny 32 (X.ms X.bb c q)))))) := fun p hp => by
        rw [CT.bb_eq hX hc]
        unfold CT.bl
        rw [h4 p (by omega)]
        simp only [hp, decide_true, Bool.true_and]
        cases hh : gHe X.f X.cn X.ld X.nn c p (X.f 11 c)
        · rfl
        · simp only [Bool.true_and]
          apply bool_iff
          simp only [gAny_iff, Bool.and_eq_true, decide_eq_true_eq]
          constructor
          · rintro ⟨q, q1, q2, q3⟩
            refine ⟨q, by omega, q2, q1, ?_, q3⟩
            rw [h5 q (by omega)]
            exact gAny_iff.mpr ⟨p, hp, by rw [hh, q2]; rfl⟩
          · rintro ⟨q, q1, q2, q3, q4, q5⟩
            exact ⟨q, q3, q2, q5⟩
      by_cases c5 : A5 = 0
      · rw [if_pos c5]
        refine ⟨S3, rfl, lw3, fun d hd => ⟨o48 d hd, o49 d hd⟩, fun p hp => ?_, fun g hg => ?_⟩
        · rw [z48, b_0, bbq p hp, c5]
          simp only [b_0, Bool.false_and, Bool.and_false]
          rw [gAny_f (fun n _ => rfl)]
          simp
        · rw [z49, b_0, fgq g hg, c5]
          simp only [b_0, Bool.false_and]
          rw [gAny_f (fun n _ => rfl)]
      · rw [if_neg c5, if_pos g32, ec, k3.1.1.1 9 (by decide)]
        obtain ⟨S6, a1, a2, a3⟩ := x_goTo (T := X.Tc c) (M := M) (day := X.f 9 c) hX k3 (fun d h => CT.Tc_lt hX h) hM
        rw [a1, gbd_s, glet_s, glet_s]
        obtain ⟨Sa, S', b1, b2, b3, b4, b5⟩ := x_fm124 (A4 := A4) (A5 := A5) hX hR (k3.lw (a2.lw (by simp))) hc a3 (fun d h p hp => by rw [a2.at 48 (by decide), o48 d (hTcc d h)]; exact hB d h p hp) (by rw [a2.at 48 (by decide)]; exact z48) (by rw [a2.at 49 (by decide)]; exact z49)
        refine ⟨S', b1, ((lw3.tr (a2.lw (by simp))).tr (b2.lw (by simp))).tr (b3.lw (by simp)), fun d hd => ⟨?_, ?_⟩, fun p hp => ?_, fun g hg => ?_⟩
        · rw [b3.2.1 d hd, b2.1 48 (by decide), a2.at 48 (by decide), o48 d hd]
        · rw [b3.1 49 (by decide), b2.2.1 d hd, a2.at 49 (by decide), o49 d hd]
        · rw [b5 p hp, bbq p hp]
        · rw [b3.1 49 (by decide), b4 g hg, fgq g hg]
    | succ r ih =>
      intro p n A4 A5 hp hn h4 h5
      obtain ⟨n, rfl⟩ := Nat.exists_eq_add_of_lt hn
      have skip : gHe X.f X.cn X.ld X.nn c p (X.f 11 c) = false → ∃ S', fX9_findMissed_33 (r + 1 + n) S3 (nI c) M (X.f 11 c) A4 A5 (nI (p + 1)) = some ((), S') ∧ Lw S S' ∧ (∀ d, d ≠ c → S'.1 48 d = S.1 48 d ∧ S'.1 49 d = S.1 49 d) ∧ (∀ p, p < 12 → bt (S'.1 48 c) p = X.bb c p) ∧ ∀ g, g < 32 → bt (S'.1 49 c) g = X.fg c g := by
        intro hz
        refine ih (p + 1) _ A4 A5 (by omega) (by omega) (fun e he => ?_) (fun q hq => by rw [h5 q hq, gAny_s, hz]; simp)
        rw [h4 e he]
        by_cases z : e = p
        · subst z; simp [hz]
        · have : (e < p + 1) = (e < p) := by apply propext; omega
          simp only [this]
      rw [show r + 1 + n + 1 = (r + 1 + n) + 1 from rfl, fX9_findMissed_33, if_neg (n12 (show p < 12 by omega)), if_pos (gib_nI (show p < 12 by omega) (by decide)), nI_clamp (show p < 2 ^ 31 by omega), x_has _ (show c < 32 by omega), gbv_s, k3.2.2.2.2 p (by omega) c (by omega)]
      simp only [gz_0, glet_s, nI_1]
      cases hs : X.sp p c
      · rw [if_pos rfl]
        exact skip (CT.he_sp hs)
      · rw [if_neg (by decide), x_held hX.D k3.1.1 hcn (by omega), gbv_s]
        simp only [gz_0]
        cases hh : gHe X.f X.cn X.ld X.nn c p (X.f 11 c)
        · rw [if_pos rfl]
          exact skip hh
        · rw [if_neg (by decide)]
          refine ih (p + 1) _ _ _ (by omega) (by omega) (fun e he => ?_) (fun q hq => ?_)
          · apply bool_iff
            rw [b_put (show p < 32 by omega) he, h4 e he]
            by_cases z : e = p
            · subst z; simp [hh]
            · have : (e < p + 1) = (e < p) := by apply propext; omega
              simp [this, z]
          · rw [b_or, h5 q hq, k3.2.2.1 p (by omega) q hq, gAny_s, hh]; simp
  exact key 12 0 FU 0 0 (by omega) (FU_gt (by omega)) (fun e he => by rw [b_0]; simp) (fun q hq => by rw [b_0]; rfl)
/-- the class's world, seen -/
def WD (X : CT) (S : GS) : Prop := KZ X S ∧ ∀ c, X.sn c = true → (∀ p, p < 12 → bt (S.1 48 c) p = X.bb c p) ∧ ∀ g, g < 32 → bt (S.1 49 c) g = X.fg c g
theorem x_see20 (hX : X.ok) (hR : X.rx) (hK : KZ X S) : ∃ S', fX9_see_20 FU S 0 0 = some ((), S') ∧ Lw S S' ∧ WD X S' := by
  have hnk := hX.D.2.2.2.1.2.2.1
  have htd := hX.D.1
  have hk := hX.D.2.2.2.1
  have key : ∀ r i n S1 M, i + r = X.nk → r < n → Lw S S1 → (∀ d, d < 32 → (bt M d = true ↔ (X.sn d = true ∧ ∃ j, j < i ∧ gOi X.f j = d))) → (∀ j, j < i → X.sn (gOi X.f j) = true → (∀ p, p < 12 → bt (S1.1 48 (gOi X.f j)) p = X.bb (gOi X.f j) p) ∧ ∀ g, g < 32 → bt (S1.1 49 (gOi X.f j)) g = X.fg (gOi X.f j) g) → ∃ S', fX9_see_20 n S1 M (nI i) = some ((), S') ∧ Lw S S' ∧ WD X S' := by
    intro r
    induction r with
    | zero =>
      intro i n S1 M hi hn hL hM hB
      obtain ⟨n, rfl⟩ := Nat.exists_eq_add_of_lt hn
      have e7 : S1.1 7 0 = nI X.nk := by rw [(hK.lw hL).1.1.1 7 (by decide)]; exact hk.1
      rw [show 0 + n + 1 = n + 1 by omega, fX9_see_20, e7, if_pos (nI_le (by omega) (by omega))]
      refine ⟨S1, rfl, hL, hK.lw hL, fun c hc => ?_⟩
      obtain ⟨a, a1, a2⟩ := oi_on hk htd (hX.sn_lt c hc)
      rw [← a2] at hc ⊢
      exact hB a (by omega) hc
    | succ r ih =>
      intro i n S1 M hi hn hL hM hB
      obtain ⟨n, rfl⟩ := Nat.exists_eq_add_of_lt hn
      have k1 := hK.lw hL
      have e7 : S1.1 7 0 = nI X.nk := by rw [k1.1.1.1 7 (by decide)]; exact hk.1
      have e13 : S1.1 13 i = nI (gOi X.f i) := by rw [k1.1.1.1 13 (by decide)]; exact oi_eq hk (by omega)
      have ol := oi_lt hk (show i < X.nk by omega)
      rw [show r + 1 + n + 1 = (r + 1 + n) + 1 from rfl, fX9_see_20, e7, if_neg (nI_ge (by omega) (by omega)), if_pos (gib_nI (show i < 32 by omega) (by decide)), nI_clamp (show i < 2 ^ 31 by omega), e13, glet_s, x_sees (show gOi X.f i < 32 by omega), gbv_s, k1.2.1 _ (by omega)]
      simp only [gz_0, glet_s, nI_1]
      cases hs : X.sn (gOi X.f i)
      · rw [if_pos rfl]
        refine ih (i + 1) _ S1 M (by omega) (by omega) hL (fun d hd => ?_) (fun j hj hsj => ?_)
        · rw [hM d hd]
          constructor
          · rintro ⟨q1, j, q2, q3⟩; exact ⟨q1, j, by omega, q3⟩
          · rintro ⟨q1, j, q2, q3⟩
            refine ⟨q1, j, ?_, q3⟩
            have : j ≠ i := fun z => by rw [z] at q3; rw [q3, q1] at hs; cases hs
            omega
        · have : j ≠ i := fun z => by rw [z, hs] at hsj; cases hsj
          exact hB j (by omega) hsj
      · rw [if_neg (by decide)]
        have hMc : ∀ d, d < 32 → bt M d = X.Tc (gOi X.f i) d := by
          intro d hd
          apply bool_iff
          rw [hM d hd]
          unfold CT.Tc
          simp only [Bool.and_eq_true, gLb_iff]
          constructor
          · rintro ⟨q1, j, q2, q3⟩
            exact ⟨q1, by rw [← q3]; exact (oi_lat hk htd (by omega) (by omega)).mpr q2⟩
          · rintro ⟨q1, q2⟩
            obtain ⟨a, a1, a2⟩ := oi_on hk htd (hX.sn_lt d q1)
            rw [← a2] at q2
            exact ⟨q1, a, (oi_lat hk htd (by omega) (by omega)).mp q2, a2⟩
        obtain ⟨S2, b1, b2, b3, b4, b5⟩ := x_findMissed (S := S1) (M := M) hX hR k1 hs hMc (fun d h p hp => by
          have hd32 : d < 32 := by have := CT.Tc_lt hX h; omega
          rw [← hMc d hd32, hM d hd32] at h
          obtain ⟨q1, j, q2, q3⟩ := h
          rw [← q3] at q1 ⊢
          exact (hB j q2 q1).1 p hp)
        rw [b1, gbd_s]
        refine ih (i + 1) _ S2 _ (by omega) (by omega) (hL.tr b2) (fun d hd => ?_) (fun j hj hsj => ?_)
        · rw [b_put (show gOi X.f i < 32 by omega) hd, hM d hd]
          constructor
          · rintro (⟨q1, j, q2, q3⟩ | q)
            · exact ⟨q1, j, by omega, q3⟩
            · exact ⟨by rw [q]; exact hs, i, by omega, q.symm⟩
          · rintro ⟨q1, j, q2, q3⟩
            by_cases z : j = i
            · subst z; exact Or.inr q3.symm
            · exact Or.inl ⟨q1, j, by omega, q3⟩
        · by_cases z : j = i
          · subst z; exact ⟨b4, b5⟩
          · have hne : gOi X.f j ≠ gOi X.f i := fun q => z (oi_inj hk htd (by omega) (by omega) q)
            rw [(b3 _ hne).1, (b3 _ hne).2]
            exact hB j (by omega) hsj
  exact key X.nk 0 FU S 0 (by omega) (FU_gt (by omega)) Lw.rf (fun d hd => by rw [b_0]; exact ⟨fun z => (by cases z), fun ⟨_, j, q, _⟩ => absurd q (Nat.not_lt_zero _)⟩) (fun j hj => absurd hj (Nat.not_lt_zero _))
end

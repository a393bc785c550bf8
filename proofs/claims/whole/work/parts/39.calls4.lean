/-! quarrel: parts of a set, one after the other -/
theorem half_and (a b : Nat) : (a &&& b) / 2 = a / 2 &&& b / 2 ∧ (a &&& b) % 2 = (a % 2) &&& (b % 2) := by
  have h := and_split 1 (a := a / 2) (b := a % 2) (c := b / 2) (d := b % 2) (by omega) (by omega)
  rw [show 2 ^ 1 * (a / 2) + a % 2 = a by omega, show 2 ^ 1 * (b / 2) + b % 2 = b by omega] at h
  have lt : (a % 2 &&& b % 2) < 2 := Nat.lt_of_le_of_lt Nat.and_le_left (by omega)
  rw [h]
  omega
theorem bit_and {c b : Nat} (hc : c < 2) (hb : b < 2) : c &&& b = if c = 1 ∧ b = 1 then 1 else 0 := by
  rcases (show c = 0 ∨ c = 1 by omega) with rfl | rfl <;> rcases (show b = 0 ∨ b = 1 by omega) with rfl | rfl <;> rfl
theorem sub_half {g s : Nat} : g &&& s = g ↔ (g / 2 &&& s / 2 = g / 2 ∧ (g % 2 = 1 → s % 2 = 1)) := by
  obtain ⟨h1, h2⟩ := half_and g s
  rw [bit_and (c := g % 2) (b := s % 2) (by omega) (by omega)] at h2
  constructor
  · intro h
    rw [h] at h1 h2
    refine ⟨h1.symm, fun q => ?_⟩
    by_cases z : g % 2 = 1 ∧ s % 2 = 1
    · exact z.2
    · rw [if_neg z] at h2; omega
  · rintro ⟨q1, q2⟩
    rw [q1] at h1
    have : (g &&& s) % 2 = g % 2 := by
      rw [h2]
      by_cases z : g % 2 = 1
      · rw [if_pos ⟨z, q2 z⟩, z]
      · rw [if_neg (fun w => z w.1)]; omega
    omega
theorem cmp_and : ∀ m s g, s < 2 ^ m → g &&& s = g → (g + (2 ^ m - 1 - s)) &&& s = g
  | 0, s, g, hs, hg => by
    have : s = 0 := by omega
    subst this
    rw [Nat.and_zero] at hg ⊢
    exact hg
  | m + 1, s, g, hs, hg => by
    obtain ⟨g1, g2⟩ := sub_half.mp hg
    have hp : 2 ^ (m + 1) = 2 * 2 ^ m := by rw [Nat.pow_succ]; omega
    have hs2 : s / 2 < 2 ^ m := by omega
    have ih := cmp_and m (s / 2) (g / 2) hs2 g1
    obtain ⟨h1, h2⟩ := half_and (g + (2 ^ (m + 1) - 1 - s)) s
    rw [bit_and (c := (g + (2 ^ (m + 1) - 1 - s)) % 2) (b := s % 2) (by omega) (by omega)] at h2
    have e1 : (g + (2 ^ (m + 1) - 1 - s)) / 2 = g / 2 + (2 ^ m - 1 - s / 2) := by omega
    rw [e1, ih] at h1
    by_cases z : s % 2 = 1
    · have e2 : (g + (2 ^ (m + 1) - 1 - s)) % 2 = g % 2 := by omega
      rw [e2] at h2
      by_cases z2 : g % 2 = 1
      · rw [if_pos ⟨z2, z⟩] at h2; omega
      · rw [if_neg (fun w => z2 w.1)] at h2; omega
    · rw [if_neg (fun w => z w.2)] at h2
      have : ¬ g % 2 = 1 := fun w => z (g2 w)
      omega
/-- the next part of a set -/
theorem nx_main : ∀ m s g, s < 2 ^ m → g &&& s = g → ((g + (2 ^ m - s)) &&& s = 0 → ∀ h, h &&& s = h → h ≤ g) ∧ ((g + (2 ^ m - s)) &&& s ≠ 0 → g < ((g + (2 ^ m - s)) &&& s) ∧ ((g + (2 ^ m - s)) &&& s) &&& s = ((g + (2 ^ m - s)) &&& s) ∧ ∀ h, h &&& s = h → g < h → ((g + (2 ^ m - s)) &&& s) ≤ h)
  | 0, s, g, hs, hg => by
    have : s = 0 := by omega
    subst this
    refine ⟨fun _ h hh => ?_, fun q => absurd (Nat.and_zero _) q⟩
    rw [Nat.and_zero] at hh
    omega
  | m + 1, s, g, hs, hg => by
    obtain ⟨g1, g2⟩ := sub_half.mp hg
    have hp : 2 ^ (m + 1) = 2 * 2 ^ m := by rw [Nat.pow_succ]; omega
    have hs2 : s / 2 < 2 ^ m := by omega
    obtain ⟨i1, i2⟩ := nx_main m (s / 2) (g / 2) hs2 g1
    obtain ⟨h1, h2⟩ := half_and (g + (2 ^ (m + 1) - s)) s
    rw [bit_and (c := (g + (2 ^ (m + 1) - s)) % 2) (b := s % 2) (by omega) (by omega)] at h2
    by_cases z : s % 2 = 1 ∧ g % 2 = 0
    · have e1 : (g + (2 ^ (m + 1) - s)) / 2 = g / 2 + (2 ^ m - 1 - s / 2) := by omega
      have e2 : (g + (2 ^ (m + 1) - s)) % 2 = 1 := by omega
      rw [e1, cmp_and m _ _ hs2 g1] at h1
      rw [e2, if_pos ⟨rfl, z.1⟩] at h2
      generalize (g + (2 ^ (m + 1) - s)) &&& s = v at h1 h2 ⊢
      refine ⟨fun q => by omega, fun _ => ⟨by omega, ?_, fun h _ hlt => by omega⟩⟩
      rw [sub_half]
      exact ⟨by rw [h1]; exact g1, fun _ => z.1⟩
    · have e1 : (g + (2 ^ (m + 1) - s)) / 2 = g / 2 + (2 ^ m - s / 2) := by
        by_cases z1 : s % 2 = 1
        · have : g % 2 = 1 := by omega
          omega
        · have : ¬ g % 2 = 1 := fun w => z1 (g2 w)
          omega
      have e2 : (g + (2 ^ (m + 1) - s)) % 2 = 0 := by
        by_cases z1 : s % 2 = 1
        · have : g % 2 = 1 := by omega
          omega
        · have : ¬ g % 2 = 1 := fun w => z1 (g2 w)
          omega
      rw [e1] at h1
      rw [e2, if_neg (by omega)] at h2
      generalize (g + (2 ^ (m + 1) - s)) &&& s = v at h1 h2 ⊢
      generalize (g / 2 + (2 ^ m - s / 2)) &&& s / 2 = w at h1 i1 i2
      have low : ∀ h, h &&& s = h → g < h → g / 2 < h / 2 := by
        intro h hh hlt
        obtain ⟨_, q2⟩ := sub_half.mp hh
        rcases Nat.lt_or_ge (g / 2) (h / 2) with y | y
        · exact y
        · exfalso
          have : h % 2 = 1 ∧ g % 2 = 0 := by omega
          exact z ⟨q2 this.1, this.2⟩
      refine ⟨fun q h hh => ?_, fun q => ?_⟩
      · rcases Nat.lt_or_ge g h with y | y
        · have a := low h hh y
          have b := i1 (by omega) (h / 2) (sub_half.mp hh).1
          omega
        · exact y
      · obtain ⟨j1, j2, j3⟩ := i2 (by omega)
        refine ⟨by omega, ?_, fun h hh hlt => ?_⟩
        · rw [sub_half]
          exact ⟨by rw [h1]; exact j2, fun y => by omega⟩
        · have := j3 (h / 2) (sub_half.mp hh).1 (low h hh hlt)
          omega
theorem nI_subM {g s : Nat} (hs : s < 2 ^ 32) : (nI g - nI s) &&& nI s = nI ((g + (2 ^ 32 - s)) &&& s) := by
  have e : nI g - nI s = nI (g + (2 ^ 32 - s)) := by
    have h1 : nI (g + (2 ^ 32 - s)) + nI s = nI g := by
      rw [nI_add, show g + (2 ^ 32 - s) + s = g + 2 ^ 32 by omega, ← nI_add]
      have : nI (2 ^ 32) = 0 := by decide
      rw [this]; simp
    rw [← h1]; simp
  rw [e, nx_and]
theorem b_nI {g i : Nat} (hi : i < 32) : bt (nI g) i = g.testBit i := by
  unfold bt nI
  show (BitVec.ofNat 32 g).getLsbD i = _
  rw [BitVec.getLsbD_ofNat, decide_eq_true hi, Bool.true_and]
theorem mask_nat {M : Int32} (h : ∀ q, 12 ≤ q → q < 32 → bt M q = false) : ∃ s, s < 4096 ∧ M = nI s := by
  refine ⟨M.toBitVec.toNat, ?_, ?_⟩
  · refine Nat.lt_pow_two_of_testBit (n := 12) _ (fun i hi => ?_)
    by_cases z : i < 32
    · have := h i hi z
      unfold bt at this
      rw [BitVec.getLsbD] at this
      exact this
    · have hlt : M.toBitVec.toNat < 2 ^ 32 := M.toBitVec.isLt
      exact Nat.testBit_lt_two_pow (Nat.lt_of_lt_of_le hlt (Nat.pow_le_pow_right (by decide) (by omega)))
  · apply b_ext
    intro i hi
    rw [b_nI hi]
    unfold bt
    rw [BitVec.getLsbD]
theorem sub_nI {g s : Nat} (hg : g < 2 ^ 32) : (nI g &&& (nI s ^^^ (-1)) = 0) = (g &&& s = g) := by
  apply propext
  constructor
  · intro h
    apply Nat.eq_of_testBit_eq
    intro i
    by_cases hi : i < 32
    · have := congrArg (fun x => bt x i) h
      simp only [b_and, b_xor, b_m1 i hi, b_0, b_nI hi] at this
      rw [Nat.testBit_and]
      cases h1 : g.testBit i <;> cases h2 : s.testBit i <;> simp [h1, h2] at this ⊢
    · have : g.testBit i = false := Nat.testBit_lt_two_pow (Nat.lt_of_lt_of_le hg (Nat.pow_le_pow_right (by decide) (by omega)))
      rw [Nat.testBit_and, this]; rfl
  · intro h
    apply b_ext
    intro i hi
    rw [b_and, b_xor, b_m1 i hi, b_0, b_nI hi, b_nI hi]
    have := congrArg (fun x => Nat.testBit x i) h
    simp only [Nat.testBit_and] at this
    cases h1 : g.testBit i <;> cases h2 : s.testBit i <;> simp [h1, h2] at this ⊢
theorem pow_nI {n : Nat} (hn : n ≤ 12) : (1 : Int32) <<< (nI n &&& 31) = nI (2 ^ n) := by
  rcases (show n = 0 ∨ n = 1 ∨ n = 2 ∨ n = 3 ∨ n = 4 ∨ n = 5 ∨ n = 6 ∨ n = 7 ∨ n = 8 ∨ n = 9 ∨ n = 10 ∨ n = 11 ∨ n = 12 by omega) with rfl | rfl | rfl | rfl | rfl | rfl | rfl | rfl | rfl | rfl | rfl | rfl | rfl <;> decide
def gCt (g : Nat) : Nat := fb_ct (bt (nI g)) 12
theorem gCt_32 {g : Nat} (hg : g < 4096) : fb_ct (bt (nI g)) 32 = gCt g := by
  rw [show (32 : Nat) = 12 + 20 from rfl, fb_ct_split]
  have : fb_ct (fun k => bt (nI g) (12 + k)) 20 = 0 := fb_ct_zero.mpr (fun k hk => by
    rw [b_nI (by omega)]
    exact Nat.testBit_lt_two_pow (Nat.lt_of_lt_of_le (show g < 2 ^ 12 from hg) (Nat.pow_le_pow_right (by decide) (by omega))))
  rw [this]; rfl
theorem gCt_0 : gCt 0 = 0 := fb_ct_zero.mpr (fun k hk => b_0 k)
theorem gCt_pos {g : Nat} (hg : g < 4096) (h0 : g ≠ 0) : 0 < gCt g := by
  rw [← gCt_32 hg]
  rcases Nat.eq_zero_or_pos (fb_ct (bt (nI g)) 32) with z | z
  · exfalso
    apply h0
    have : nI g = nI 0 := b_ext (fun i hi => by rw [fb_ct_zero.mp z i hi]; exact (b_0 i).symm)
    exact (nI_eq (by omega) (by omega)).mp this
  · exact z
/-- no two points of a set are opposed -/
def CT.pc (X : CT) (M : Int32) : Bool := !(gAny X.np (fun p => bt M p && gAny 32 (fun q => X.ag p q && bt M q)))
def CT.rm (X : CT) (s g : Nat) : Bool := X.pc (nI s &&& (nI g ^^^ (-1)))
/-- the best to give up, all below a bound looked at -/
def CT.gq (X : CT) (s : Nat) : Nat → Nat
  | 0 => s
  | g + 1 => if (g &&& s = g ∧ gCt g < gCt (X.gq s g)) ∧ X.rm s g = true then g else X.gq s g
section
variable {S S' S1 S2 : GS} {X : CT} {s : Nat}
theorem x_peace {k wo : Int32} (hC : CTof X S k wo) (hK : KZ X S1) (M : Int32) : fX10_areAtPeace S1 M = some (gz (X.pc M)) := by
  obtain ⟨p1, p2, p3⟩ := hC.np
  have e5 : S1.1 5 0 = nI X.np := by rw [hK.1.1.1 5 (by decide)]; exact hC.1.D.2.2.1.1
  unfold fX10_areAtPeace
  rw [glet_s]
  refine up_any (fun n (_ : Unit) p => fX10_areAtPeace_2 n S1 M p) X.np (fun p _ => gAny p (fun p => bt M p && gAny 32 (fun q => X.ag p q && bt M q)) = false) (fun r => r = some (gz (X.pc M)))
    (fun n _ h => ?_) (fun n p _ hp h => ?_) () rfl FU (FU_gt (by omega))
  · rw [fX10_areAtPeace_2, e5, if_pos (nI_le (Nat.le_refl _) (by omega))]
    unfold CT.pc
    rw [h]; rfl
  · rw [fX10_areAtPeace_2, e5, if_neg (nI_ge hp (by omega)), x_has _ (show p < 32 by omega), gbv_s]
    simp only [gz_0, glet_s, nI_1]
    cases hb : bt M p
    · rw [if_pos rfl]
      exact Or.inr ⟨(), rfl, by rw [gAny_s, h, hb]; rfl⟩
    · rw [if_neg (by decide), if_pos (gib_nI (show p < 12 by omega) (by decide)), nI_clamp (show p < 2 ^ 31 by omega)]
      have hbits : ∀ d, d < 32 → bt (S1.1 38 p &&& M) d = (X.ag p d && bt M d) := fun d hd => by rw [b_and, hK.2.2.1 p (by omega) d hd]
      simp only [gAny_bits hbits]
      cases hg : gAny 32 (fun q => X.ag p q && bt M q)
      · rw [if_pos rfl]
        exact Or.inr ⟨(), rfl, by rw [gAny_s, h, hb, hg]; rfl⟩
      · rw [if_neg (by decide)]
        left
        have : X.pc M = false := by
          unfold CT.pc
          rw [gAny_iff.mpr ⟨p, hp, by rw [hb, hg]; rfl⟩]; rfl
        rw [this]; rfl
theorem m_peace {k wo : Int32} (hC : CTof X S k wo) (hF : MF X S1) (hM : MT X S1) (M : Int32) : fX11_isPeace S1 M = some (gz (X.pc M)) := by
  obtain ⟨p1, p2, p3⟩ := hC.np
  unfold fX11_isPeace
  rw [glet_s]
  refine up_any (fun n (_ : Unit) p => fX11_isPeace_2 n S1 M p) X.np (fun p _ => gAny p (fun p => bt M p && gAny 32 (fun q => X.ag p q && bt M q)) = false) (fun r => r = some (gz (X.pc M)))
    (fun n _ h => ?_) (fun n p _ hp h => ?_) () rfl FU (FU_gt (by omega))
  · rw [fX11_isPeace_2, hF.np hC.1, if_pos (nI_le (Nat.le_refl _) (by omega))]
    unfold CT.pc
    rw [h]; rfl
  · rw [fX11_isPeace_2, hF.np hC.1, if_neg (nI_ge hp (by omega))]
    simp only [b_tst M (show p < 32 by omega), glet_s, nI_1]
    cases hb : bt M p
    · rw [if_neg (by decide)]
      exact Or.inr ⟨(), rfl, by rw [gAny_s, h, hb]; rfl⟩
    · rw [if_pos rfl, if_pos (gib_nI (show p < 12 by omega) (by decide)), nI_clamp (show p < 2 ^ 31 by omega)]
      have hbits : ∀ d, d < 32 → bt (S1.1 80 p &&& M) d = (X.ag p d && bt M d) := fun d hd => by rw [b_and, hM.2.2 p hp d hd]
      simp only [gAny_bits hbits]
      cases hg : gAny 32 (fun q => X.ag p q && bt M q)
      · rw [if_pos rfl]
        exact Or.inr ⟨(), rfl, by rw [gAny_s, h, hb, hg]; rfl⟩
      · rw [if_neg (by decide)]
        left
        have : X.pc M = false := by
          unfold CT.pc
          rw [gAny_iff.mpr ⟨p, hp, by rw [hb, hg]; rfl⟩]; rfl
        rw [this]; rfl
theorem CT.gq_le (hs : s < 4096) : ∀ g, g ≤ 4096 → X.gq s g < 4096
  | 0, _ => hs
  | g + 1, hg => by
    unfold CT.gq
    split
    · omega
    · exact CT.gq_le hs g (by omega)
theorem CT.gq_gap {g d : Nat} (h : ∀ i, i < d → ¬ (g + i) &&& s = g + i) : X.gq s (g + d) = X.gq s g := by
  induction d with
  | zero => rfl
  | succ d ih =>
    show (if ((g + d) &&& s = g + d ∧ _) ∧ _ then _ else _) = _
    rw [if_neg (fun z => h d (by omega) z.1.1)]
    exact ih (fun i hi => h i (by omega))
theorem x_fewest {k wo : Int32} (hC : CTof X S k wo) (hK : KZ X S1) (hs : s < 2 ^ X.np) : fX10_fewestToGiveUp S1 (nI s) = some (nI (X.gq s (2 ^ X.np))) := by
  obtain ⟨p1, p2, p3⟩ := hC.np
  have hpw : 2 ^ X.np ≤ 4096 := Nat.pow_le_pow_right (n := 2) (by decide) p3
  have hs12 : s < 4096 := by omega
  have e5 : S1.1 5 0 = nI X.np := by rw [hK.1.1.1 5 (by decide)]; exact hC.1.D.2.2.1.1
  have key : ∀ r g k n, 2 ^ X.np ≤ g + r → r < n → g < 2 ^ X.np → g &&& s = g → k ≤ g → fX10_fewestToGiveUp_13 n S1 (nI s) (nI (X.gq s g)) (nI (gCt (X.gq s g))) (nI g) (nI k) = some (nI (X.gq s (2 ^ X.np))) := by
    intro r
    induction r with
    | zero => intro g k n h1 h2 h3; omega
    | succ r ih =>
      intro g k n hr hn hg hsub hk
      obtain ⟨n, rfl⟩ := Nat.exists_eq_add_of_lt hn
      have hq := CT.gq_le (X := X) hs12 g (by omega)
      have cg : gCt g ≤ 12 := fb_ct_le _ _
      have cq : gCt (X.gq s g) ≤ 12 := fb_ct_le _ _
      have s58 : ∀ B, B = X.gq s (g + 1) → fX10_fewestToGiveUp_58 (fX10_fewestToGiveUp_13 (r + 1 + n)) S1 (nI s) (nI B) (nI (gCt B)) (nI g) (nI k) = some (nI (X.gq s (2 ^ X.np))) := by
        intro B hB
        unfold fX10_fewestToGiveUp_58
        rw [nI_subM (by omega), glet_s]
        obtain ⟨n1, n2⟩ := nx_main 32 s g (by omega) hsub
        generalize (g + (2 ^ 32 - s)) &&& s = v at n1 n2 ⊢
        by_cases cz : v = 0
        · rw [if_pos (by rw [cz]; rfl), hB]
          have := CT.gq_gap (X := X) (s := s) (g := g + 1) (d := 2 ^ X.np - (g + 1)) (fun i hi z => by have := n1 cz _ z; omega)
          rw [show g + 1 + (2 ^ X.np - (g + 1)) = 2 ^ X.np by omega] at this
          rw [this]
        · obtain ⟨m1, m2, m3⟩ := n2 cz
          have vs : v ≤ s := by rw [← m2]; exact Nat.and_le_right
          rw [if_neg (nI_ne0 (by omega) (by omega)), glet_s, nI_1, hB]
          have := CT.gq_gap (X := X) (s := s) (g := g + 1) (d := v - (g + 1)) (fun i hi z => by have := m3 _ z (by omega); omega)
          rw [show g + 1 + (v - (g + 1)) = v by omega] at this
          rw [← this]
          exact ih v (k + 1) _ (by omega) (by omega) (by omega) m2 (by omega)
      rw [show r + 1 + n + 1 = (r + 1 + n) + 1 from rfl, fX10_fewestToGiveUp_13, e5, pow_nI p3, if_neg (nI_ge (by omega) (by omega)), x_bits, gCt_32 (by omega), gbv_s]
      simp only [nI_leI (show gCt (X.gq s g) < 2 ^ 31 by omega) (show gCt g < 2 ^ 31 by omega)]
      by_cases c1 : gCt (X.gq s g) ≤ gCt g
      · rw [if_pos c1]
        refine s58 _ ?_
        show _ = (if (g &&& s = g ∧ gCt g < gCt (X.gq s g)) ∧ X.rm s g = true then g else X.gq s g)
        rw [if_neg (by omega)]
      · rw [if_neg c1, x_peace hC hK, gbv_s]
        simp only [gz_0]
        cases hp : X.pc (nI s &&& (nI g ^^^ (-1)))
        · rw [if_pos rfl]
          refine s58 _ ?_
          show _ = (if (g &&& s = g ∧ gCt g < gCt (X.gq s g)) ∧ X.rm s g = true then g else X.gq s g)
          rw [if_neg]
          rintro ⟨-, z⟩
          unfold CT.rm at z
          rw [hp] at z; cases z
        · rw [if_neg (by decide), gbv_s]
          refine s58 g ?_
          show _ = (if (g &&& s = g ∧ gCt g < gCt (X.gq s g)) ∧ X.rm s g = true then g else X.gq s g)
          rw [if_pos ⟨⟨hsub, by omega⟩, hp⟩]
  unfold fX10_fewestToGiveUp
  rw [x_bits, gCt_32 hs12, gbv_s, glet_s, glet_s]
  exact key (2 ^ X.np) 0 0 FU (by omega) (FU_gt (by omega)) (by omega) (Nat.zero_and s) (Nat.le_refl _)
theorem CT.gq_0 (hs : s < 4096) (hp : X.pc (nI s) = true) : ∀ g, X.gq s (g + 1) = 0 := by
  have rm0 : X.rm s 0 = true := by
    unfold CT.rm
    have : nI s &&& (nI 0 ^^^ (-1)) = nI s := b_ext (fun i hi => by
      rw [b_and, b_xor, b_m1 i hi, show nI 0 = (0 : Int32) from rfl, b_0]; simp)
    rw [this]; exact hp
  intro g
  induction g with
  | zero =>
    show (if (0 &&& s = 0 ∧ gCt 0 < gCt s) ∧ X.rm s 0 = true then 0 else s) = 0
    by_cases z : s = 0
    · rw [z]; split <;> rfl
    · rw [if_pos ⟨⟨Nat.zero_and s, by rw [gCt_0]; exact gCt_pos hs z⟩, rm0⟩]
  | succ g ih =>
    show (if (_ ∧ gCt (g + 1) < gCt (X.gq s (g + 1))) ∧ _ then _ else X.gq s (g + 1)) = 0
    rw [ih, gCt_0, if_neg (by omega)]
theorem m_fewest {k wo : Int32} (hC : CTof X S k wo) (hF : MF X S1) (hM : MT X S1) (hs : s < 2 ^ X.np) : fX11_quarrel_92 FU S1 (nI s) (nI s) 0 = some (nI (X.gq s (2 ^ X.np)), S1) := by
  obtain ⟨p1, p2, p3⟩ := hC.np
  have hpw : 2 ^ X.np ≤ 4096 := Nat.pow_le_pow_right (n := 2) (by decide) p3
  have hp1 : 0 < 2 ^ X.np := Nat.two_pow_pos _
  have hs12 : s < 4096 := by omega
  refine up_any (fun n (b : Int32) g => fX11_quarrel_92 n S1 (nI s) b g) (2 ^ X.np) (fun g b => b = nI (X.gq s g)) (fun r => r = some (nI (X.gq s (2 ^ X.np)), S1))
    (fun n b h => ?_) (fun n g b hg h => Or.inr ?_) (nI s) rfl FU (FU_gt (by omega))
  · show fX11_quarrel_92 (n + 1) S1 (nI s) b (nI (2 ^ X.np)) = _
    rw [fX11_quarrel_92, hF.np hC.1, pow_nI p3, if_pos (nI_le (Nat.le_refl _) (by omega)), m_peace hC hF hM, gbv_s, h]
    simp only [gz_0]
    cases hp : X.pc (nI s)
    · rw [if_pos rfl]
    · rw [if_neg (by decide)]
      have := CT.gq_0 hs12 hp (2 ^ X.np - 1)
      rw [show 2 ^ X.np - 1 + 1 = 2 ^ X.np by omega] at this
      rw [this]; rfl
  · show ∃ s', fX11_quarrel_92 (n + 1) S1 (nI s) b (nI g) = fX11_quarrel_92 n S1 (nI s) s' (nI (g + 1)) ∧ _
    have hq := CT.gq_le (X := X) hs12 g (by omega)
    have cg : gCt g ≤ 12 := fb_ct_le _ _
    have cq : gCt (X.gq s g) ≤ 12 := fb_ct_le _ _
    have en : X.gq s (g + 1) = (if (g &&& s = g ∧ gCt g < gCt (X.gq s g)) ∧ X.rm s g = true then g else X.gq s g) := rfl
    rw [fX11_quarrel_92, hF.np hC.1, pow_nI p3, if_neg (nI_ge hg (by omega)), h]
    simp only [sub_nI (show g < 2 ^ 32 by omega), glet_s, nI_1]
    by_cases c1 : g &&& s = g
    · rw [if_pos c1, m_bits, gbv_s, m_bits, gbv_s]
      have l := nI_leI (show gCt (X.gq s g) < 2 ^ 31 by omega) (show gCt g < 2 ^ 31 by omega)
      unfold gCt at l
      simp only [l]
      by_cases c2 : gCt (X.gq s g) ≤ gCt g
      · rw [if_pos (show fb_ct (bt (nI (X.gq s g))) 12 ≤ fb_ct (bt (nI g)) 12 from c2)]
        exact ⟨_, rfl, by rw [en, if_neg (by omega)]⟩
      · have c2' : ¬ fb_ct (bt (nI (X.gq s g))) 12 ≤ fb_ct (bt (nI g)) 12 := c2
        rw [if_neg c2', m_peace hC hF hM, gbv_s]
        simp only [gz_0]
        cases hp : X.pc (nI s &&& (nI g ^^^ (-1)))
        · rw [if_pos rfl]
          refine ⟨_, rfl, ?_⟩
          rw [en, if_neg]
          rintro ⟨-, z⟩
          unfold CT.rm at z
          rw [hp] at z; cases z
        · rw [if_neg (by decide)]
          exact ⟨_, rfl, by rw [en, if_pos ⟨⟨c1, by omega⟩, hp⟩]⟩
    · rw [if_neg c1]
      exact ⟨_, rfl, by rw [en, if_neg (fun z => c1 z.1.1)]⟩
theorem x_quarrel {k wo day : Int32} (hC : CTof X S k wo) (hW : WA X day S1) {ct : Nat} {F : Int32} (hct : ct < X.nc) (h5 : S1.1 5 0 = nI X.np) : ∃ M S', fX10_quarrel_42 FU S1 (nI ct) F 0 0 = (gbv (fX10_fewestToGiveUp S' M) fun r3 => some (r3, S')) ∧ LE S1 S' ∧ ∀ q, q < 32 → bt M q = (decide (q < X.np) && (decide (X.ld q = q) && decide (3 ≤ X.sd day ct F q))) := by
  obtain ⟨p1, p2, p3⟩ := hC.np
  refine up_any (fun n (s : GS × Int32) p => fX10_quarrel_42 n s.1 (nI ct) F s.2 p) X.np (fun p s => LE S1 s.1 ∧ ∀ q, q < 32 → bt s.2 q = (decide (q < p) && (decide (X.ld q = q) && decide (3 ≤ X.sd day ct F q)))) (fun r => ∃ M S', r = (gbv (fX10_fewestToGiveUp S' M) fun r3 => some (r3, S')) ∧ LE S1 S' ∧ ∀ q, q < 32 → bt M q = (decide (q < X.np) && (decide (X.ld q = q) && decide (3 ≤ X.sd day ct F q))))
    (fun n s h => ?_) (fun n p s hp h => Or.inr ?_) (S1, 0) ⟨LE.rf, fun q hq => (by rw [b_0]; simp)⟩ FU (FU_gt (by omega))
  · obtain ⟨S2, M⟩ := s
    show ∃ M' S', fX10_quarrel_42 (n + 1) S2 (nI ct) F M (nI X.np) = _ ∧ _
    have e5 : S2.1 5 0 = nI X.np := by rw [h.1.1]; exact h5
    rw [fX10_quarrel_42, e5, if_pos (nI_le (Nat.le_refl _) (by omega))]
    exact ⟨M, S2, rfl, h⟩
  · obtain ⟨S2, M⟩ := s
    show ∃ s' : GS × Int32, fX10_quarrel_42 (n + 1) S2 (nI ct) F M (nI p) = fX10_quarrel_42 n s'.1 (nI ct) F s'.2 (nI (p + 1)) ∧ _
    obtain ⟨h1, h2⟩ := h
    dsimp only at h1 h2
    have e5 : S2.1 5 0 = nI X.np := by rw [h1.1]; exact h5
    have hW2 := hW.le h1
    have l := hC.1.ld_lt p hp
    have keep : (decide (X.ld p = p) && decide (3 ≤ X.sd day ct F p)) = false → ∀ q, q < 32 → bt M q = (decide (q < p + 1) && (decide (X.ld q = q) && decide (3 ≤ X.sd day ct F q))) := by
      intro hz q hq
      rw [h2 q hq]
      by_cases z : q = p
      · subst z; rw [hz]; simp
      · have : (q < p + 1) = (q < p) := by apply propext; omega
        simp only [this]
    rw [fX10_quarrel_42, e5, if_neg (nI_ge hp (by omega)), if_pos (gib_nI (show p < 12 by omega) (by decide)), nI_clamp (show p < 2 ^ 31 by omega), hW2.1.lead hp]
    simp only [nI_eq (show X.ld p < 2 ^ 31 by omega) (show p < 2 ^ 31 by omega), glet_s, nI_1]
    by_cases cl : X.ld p = p
    · rw [if_pos cl]
      obtain ⟨S3, a1, a2⟩ := x_sd (F := F) hC hW2 (show p < 12 by omega) hct
      have sl := CT.sd_le (X := X) (day := day) (ct := ct) (F := F) p
      rw [a1, gbd_s, show (3 : Int32) = nI 3 from rfl]
      simp only [nI_ltI (show X.sd day ct F p < 2 ^ 31 by omega) (show 3 < 2 ^ 31 by omega)]
      by_cases cv : X.sd day ct F p < 3
      · rw [if_pos cv]
        exact ⟨(S3, M), rfl, h1.tr a2, keep (by rw [decide_eq_false (show ¬ 3 ≤ X.sd day ct F p by omega)]; simp)⟩
      · rw [if_neg cv]
        refine ⟨(S3, _), rfl, h1.tr a2, fun q hq => ?_⟩
        apply bool_iff
        show bt (M ||| 1 <<< (nI p &&& 31)) q = true ↔ _
        rw [b_put (show p < 32 by omega) hq, h2 q hq]
        by_cases z : q = p
        · subst z
          have : 3 ≤ X.sd day ct F q := by omega
          simp [cl, this]
        · have : (q < p + 1) = (q < p) := by apply propext; omega
          simp [this, z]
    · rw [if_neg cl]
      exact ⟨(S2, M), rfl, h1, keep (by rw [decide_eq_false cl]; rfl)⟩
theorem m_quarrel {k wo day : Int32} {o : Nat → Nat} {m e : Nat} (hC : CTof X S k wo) (hA : MA X o m e day S1) {ct : Nat} {F : Int32} (hct : ct < X.nc) : ∃ M S', fX11_quarrel_37 FU S1 (nI ct) F 0 0 = fX11_quarrel_92 FU S' M M 0 ∧ Ms S1 S' ∧ ∀ q, q < 32 → bt M q = (decide (q < X.np) && (decide (X.ld q = q) && decide (3 ≤ X.sd day ct F q))) := by
  obtain ⟨p1, p2, p3⟩ := hC.np
  refine up_any (fun n (s : GS × Int32) p => fX11_quarrel_37 n s.1 (nI ct) F s.2 p) X.np (fun p s => Ms S1 s.1 ∧ ∀ q, q < 32 → bt s.2 q = (decide (q < p) && (decide (X.ld q = q) && decide (3 ≤ X.sd day ct F q)))) (fun r => ∃ M S', r = fX11_quarrel_92 FU S' M M 0 ∧ Ms S1 S' ∧ ∀ q, q < 32 → bt M q = (decide (q < X.np) && (decide (X.ld q = q) && decide (3 ≤ X.sd day ct F q))))
    (fun n s h => ?_) (fun n p s hp h => Or.inr ?_) (S1, 0) ⟨Ms.rf, fun q hq => (by rw [b_0]; simp)⟩ FU (FU_gt (by omega))
  · obtain ⟨S2, M⟩ := s
    show ∃ M' S', fX11_quarrel_37 (n + 1) S2 (nI ct) F M (nI X.np) = _ ∧ _
    rw [fX11_quarrel_37, (hA.ms h.1).1.1.np hC.1, if_pos (nI_le (Nat.le_refl _) (by omega)), glet_s]
    exact ⟨M, S2, rfl, h⟩
  · obtain ⟨S2, M⟩ := s
    show ∃ s' : GS × Int32, fX11_quarrel_37 (n + 1) S2 (nI ct) F M (nI p) = fX11_quarrel_37 n s'.1 (nI ct) F s'.2 (nI (p + 1)) ∧ _
    obtain ⟨h1, h2⟩ := h
    dsimp only at h1 h2
    have hA2 := hA.ms h1
    have l := hC.1.ld_lt p hp
    have keep : (decide (X.ld p = p) && decide (3 ≤ X.sd day ct F p)) = false → ∀ q, q < 32 → bt M q = (decide (q < p + 1) && (decide (X.ld q = q) && decide (3 ≤ X.sd day ct F q))) := by
      intro hz q hq
      rw [h2 q hq]
      by_cases z : q = p
      · subst z; rw [hz]; simp
      · have : (q < p + 1) = (q < p) := by apply propext; omega
        simp only [this]
    rw [fX11_quarrel_37, hA2.1.1.np hC.1, if_neg (nI_ge hp (by omega)), if_pos (gib_nI (show p < 12 by omega) (by decide)), nI_clamp (show p < 2 ^ 31 by omega), hA2.lead hp]
    simp only [nI_eq (show X.ld p < 2 ^ 31 by omega) (show p < 2 ^ 31 by omega), glet_s, nI_1]
    by_cases cl : X.ld p = p
    · rw [if_pos cl]
      obtain ⟨S3, a1, a2⟩ := m_sd (F := F) hC hA2 (show p < 12 by omega) hct
      have sl := CT.sd_le (X := X) (day := day) (ct := ct) (F := F) p
      rw [a1, gbd_s, show (3 : Int32) = nI 3 from rfl]
      simp only [nI_ltI (show X.sd day ct F p < 2 ^ 31 by omega) (show 3 < 2 ^ 31 by omega)]
      by_cases cv : X.sd day ct F p < 3
      · rw [if_pos cv]
        exact ⟨(S3, M), rfl, h1.tr a2, keep (by rw [decide_eq_false (show ¬ 3 ≤ X.sd day ct F p by omega)]; simp)⟩
      · rw [if_neg cv]
        refine ⟨(S3, _), rfl, h1.tr a2, fun q hq => ?_⟩
        apply bool_iff
        show bt (M ||| 1 <<< (nI p &&& 31)) q = true ↔ _
        rw [b_put (show p < 32 by omega) hq, h2 q hq]
        by_cases z : q = p
        · subst z
          have : 3 ≤ X.sd day ct F q := by omega
          simp [cl, this]
        · have : (q < p + 1) = (q < p) := by apply propext; omega
          simp [this, z]
    · rw [if_neg cl]
      exact ⟨(S2, M), rfl, h1, keep (by rw [decide_eq_false cl]; rfl)⟩
theorem call_quarrel (h : IV S) (a1 a2 a3 a4 : Int32) : Both S (fun S => fX10_quarrel S a1 a2 a3 a4) (fun S => fX11_quarrel S a1 a2 a3 a4) := by
  obtain ⟨X, S9, hC, w1, w2, w3⟩ := ask_world h a4 (-1)
  obtain ⟨p1, p2, p3⟩ := hC.np
  obtain ⟨c1, c2, c3⟩ := hC.nc
  have xa := x_isAskable (S := S) (a := a1) (b := a2) (c := a3) (d := a4) c1 (by omega)
  have ma : ∀ S', Lc S S' → fX11_isAsked (gsi S' 54 0 0) a1 a2 a3 a4 = some (gz (gib a1 X.nc && gib a2 1024 && gib a3 10000 && gib a4 10000)) := fun S' q => m_isAsked (by rw [thr_at 30 (by decide), q.1 54 (by omega)]; exact c2) (by omega)
  cases ha : (gib a1 X.nc && gib a2 1024 && gib a3 10000 && gib a4 10000)
  · refine both_no h (-1) ?_ ?_
    · show fX10_quarrel S a1 a2 a3 a4 = _
      unfold fX10_quarrel
      rw [xa, gbv_s, ha, if_pos gzf0]
    · show fX11_quarrel S a1 a2 a3 a4 = _
      unfold fX11_quarrel
      rw [glet_s, ma S Lc.rf, gbv_s, ha, if_pos gzf0]
  rw [ha] at xa
  simp only [ha] at ma
  simp only [Bool.and_eq_true] at ha
  obtain ⟨ct, hct, rfl⟩ := gib_ex ha.1.1.1 (by omega)
  obtain ⟨S12, d1, d2, d3⟩ := x_atDay (day := a3) hC w3
  have z12 : Lc S S12 := w2.lc.tr (Fr35.lc d2)
  obtain ⟨M, S16, e1, e2, e3⟩ := x_quarrel (F := a2) hC d3 hct (by rw [z12.1 5 (by omega)]; exact p1)
  have z16 : Lc S S16 := z12.tr e2.lc
  obtain ⟨T10, T13, o, m, e, i1, i2, i3, i4⟩ := m_atDay (day := a3) hC (Or.inl rfl) (mf_of hC.2.2.2.1 z16)
  obtain ⟨M', T14, j1, j2, j3⟩ := m_quarrel (F := a2) hC i4 hct
  have hMM : M' = M := b_ext (fun q hq => by rw [j3 q hq, e3 q hq])
  subst hMM
  obtain ⟨s, hs, hM⟩ := mask_nat (M := M') (fun q h1 h2 => by rw [e3 q h2, decide_eq_false (by omega)]; rfl)
  have hsp : s < 2 ^ X.np := by
    refine Nat.lt_pow_two_of_testBit _ (fun i hi => ?_)
    by_cases z : i < 32
    · rw [← b_nI z, ← hM, e3 i z, decide_eq_false (by omega)]; rfl
    · exact Nat.testBit_lt_two_pow (Nat.lt_of_lt_of_le (show s < 2 ^ 12 from hs) (Nat.pow_le_pow_right (by decide) (by omega)))
  have hA14 := i4.ms j2
  refine ⟨nI (X.gq s (2 ^ X.np)), S16, T14, ?_, ?_, IV_rn (IV_thr (IV_lc h z16) 0) (i3.tr j2.rn)⟩
  · show fX10_quarrel S (nI ct) a2 a3 a4 = _
    unfold fX10_quarrel
    rw [xa, gbv_s, if_neg gzt0, w1, gbd_s, d1, gbd_s, glet_s, glet_s, e1, hM, x_fewest hC (d3.1.1.le e2) hsp, gbv_s]
  · show fX11_quarrel S16 (nI ct) a2 a3 a4 = _
    unfold fX11_quarrel
    rw [glet_s, ma S16 z16, gbv_s, if_neg gzt0, i1, gbd_s, i2, gbd_s, glet_s, glet_s, j1, hM, m_fewest hC hA14.1.1 hA14.1.2.1 hsp]
end

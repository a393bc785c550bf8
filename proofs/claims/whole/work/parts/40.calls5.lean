/-! apart: facts that tell cases apart -/
theorem sh5 : ∀ d, d < 1024 → nI d >>> ((5 : Int32) &&& 31) = nI (d / 32) ∧ nI d &&& 31 = nI (d % 32) := by decide +kernel
theorem co10 : ∀ d, d < 1024 → (1023 : Int32) &&& (nI d ^^^ (-1)) = nI (1023 ^^^ d) := by decide +kernel
theorem sw5 : ∀ f, f < 5 → (∀ j, j < 32 → bt (gsw (nI f)) j = !(j.testBit f)) ∧ (1 : Int32) <<< (nI f &&& 31) = nI (2 ^ f) ∧ 2 ^ f < 32 := by decide +kernel
theorem lo5 : ∀ f, f < 5 → ∀ j, j < 32 → (decide (2 ^ f ≤ j) && !((j - 2 ^ f).testBit f)) = j.testBit f ∧ (j.testBit f = true → j - 2 ^ f = j ^^^ 2 ^ f ∧ j ^^^ 2 ^ f < 32) := by decide +kernel
theorem hi5 : ∀ f, f < 5 → ∀ w, w < 32 → w ^^^ 2 ^ f < 32 ∧ (w.testBit f = true → w ^^^ 2 ^ f < w) ∧ nI w ^^^ nI (2 ^ f) = nI (w ^^^ 2 ^ f) := by decide +kernel
theorem gl5 : ∀ f, f < 5 → ∀ g, g < 1024 → (g ^^^ 2 ^ f) / 32 = g / 32 ∧ (g ^^^ 2 ^ f) % 32 = (g % 32) ^^^ 2 ^ f ∧ g.testBit f = (g % 32).testBit f ∧ g ^^^ 2 ^ f < 1024 := by decide +kernel
theorem gh5 : ∀ f, f < 5 → ∀ g, g < 1024 → (g ^^^ 2 ^ (5 + f)) / 32 = (g / 32) ^^^ 2 ^ f ∧ (g ^^^ 2 ^ (5 + f)) % 32 = g % 32 ∧ g.testBit (5 + f) = (g / 32).testBit f ∧ g ^^^ 2 ^ (5 + f) < 1024 ∧ (g ^^^ 2 ^ (5 + f)).testBit (5 + f) = !(g.testBit (5 + f)) := by decide +kernel
theorem ct10 : ∀ d, d < 1023 → fb_ct (bt (nI d)) 12 < 10 := by decide +kernel
theorem n1023v : nI 1023 = (1023 : Int32) := by decide
theorem ct10m : fb_ct (bt (nI 1023)) 12 = 10 := by decide +kernel
/-- marks spread to all that hold one, k facts done -/
def gZt (D : Nat → Bool) : Nat → Nat → Bool
  | 0 => D
  | k + 1 => fun g => gZt D k g || (g.testBit k && gZt D k (g ^^^ 2 ^ k))
theorem lt10 {g : Nat} (h : g < 1024) {i : Nat} (hi : 10 ≤ i) : g.testBit i = false := Nat.testBit_lt_two_pow (Nat.lt_of_lt_of_le (show g < 2 ^ 10 from h) (Nat.pow_le_pow_right (by decide) hi))
theorem xor10 {g k : Nat} (h : g < 1024) (hk : k < 10) : g ^^^ 2 ^ k < 1024 := by
  refine Nat.lt_pow_two_of_testBit (n := 10) _ (fun i hi => ?_)
  rw [fb_bit_flip, lt10 h hi, decide_eq_false (by omega)]; rfl
theorem zt_spec {D : Nat → Bool} : ∀ k, k ≤ 10 → ∀ g, g < 1024 → (gZt D k g = true ↔ ∃ d, d < 1024 ∧ D d = true ∧ (∀ i, i < 10 → d.testBit i = true → g.testBit i = true) ∧ ∀ i, k ≤ i → i < 10 → d.testBit i = g.testBit i) := by
  intro k
  induction k with
  | zero =>
    intro _ g hg
    constructor
    · intro h; exact ⟨g, hg, h, fun i _ h => h, fun i _ _ => rfl⟩
    · rintro ⟨d, d1, d2, d3, d4⟩
      have : d = g := by
        apply Nat.eq_of_testBit_eq
        intro i
        by_cases hi : i < 10
        · exact d4 i (Nat.zero_le _) hi
        · rw [lt10 d1 (by omega), lt10 hg (by omega)]
      subst this
      exact d2
  | succ k ih =>
    intro hk g hg
    have ih := ih (by omega)
    show (gZt D k g || (g.testBit k && gZt D k (g ^^^ 2 ^ k))) = true ↔ _
    rw [Bool.or_eq_true, Bool.and_eq_true, ih g hg, ih _ (xor10 hg (by omega))]
    constructor
    · rintro (⟨d, d1, d2, d3, d4⟩ | ⟨hb, d, d1, d2, d3, d4⟩)
      · exact ⟨d, d1, d2, d3, fun i a b => d4 i (by omega) b⟩
      · refine ⟨d, d1, d2, fun i hi h => ?_, fun i a b => ?_⟩
        · have := d3 i hi h
          rw [fb_bit_flip] at this
          by_cases z : i = k
          · rw [z]; exact hb
          · rw [decide_eq_false z] at this; simpa using this
        · have := d4 i (by omega) b
          rw [fb_bit_flip, decide_eq_false (show ¬ i = k by omega)] at this
          simpa using this
    · rintro ⟨d, d1, d2, d3, d4⟩
      by_cases z : d.testBit k = g.testBit k
      · refine Or.inl ⟨d, d1, d2, d3, fun i a b => ?_⟩
        by_cases q : i = k
        · rw [q]; exact z
        · exact d4 i (by omega) b
      · have hd : d.testBit k = false ∧ g.testBit k = true := by
          have := d3 k (by omega)
          cases h1 : d.testBit k <;> cases h2 : g.testBit k <;> simp [h1, h2] at z this ⊢
        refine Or.inr ⟨hd.2, d, d1, d2, fun i hi h => ?_, fun i a b => ?_⟩
        · rw [fb_bit_flip]
          by_cases q : i = k
          · rw [q, hd.1] at h; cases h
          · rw [decide_eq_false q, d3 i hi h]; rfl
        · rw [fb_bit_flip]
          by_cases q : i = k
          · rw [q, hd.1, hd.2, decide_eq_true rfl]; rfl
          · rw [decide_eq_false q, d4 i (by omega) b]; simp
/-- a mark in the class's rows -/
def gMk (S : GS) (g : Nat) : Bool := bt (S.1 53 (g / 32)) (g % 32)
/-- only the marks have changed -/
def Fm (S S' : GS) : Prop := Fr [53] S S'
section
variable {S S' S1 S2 : GS} {X : CT}
theorem x_mark {d : Nat} (hd : d < 1024) : ∃ S', fX10_mark S (nI d) = some ((), S') ∧ Fr [53] S S' ∧ ∀ g, g < 1024 → gMk S' g = (gMk S g || decide (g = d)) := by
  unfold fX10_mark
  rw [(sh5 d hd).1, (sh5 d hd).2, if_pos (gib_nI (show d / 32 < 32 by omega) (by decide)), nI_clamp (by omega), glet_s]
  refine ⟨_, rfl, Fr.rf.put (by simp) _ _, fun g hg => ?_⟩
  unfold gMk
  rw [gsi_r]
  by_cases z : g / 32 = d / 32
  · rw [if_pos ⟨rfl, z⟩, z, b_or, b_one (show d % 32 < 32 by omega) (show g % 32 < 32 by omega)]
    congr 1
    by_cases q : g = d
    · rw [decide_eq_true q, decide_eq_true (by rw [q])]
    · rw [decide_eq_false q, decide_eq_false (by omega)]
  · rw [if_neg (by rintro ⟨-, w⟩; exact z w), decide_eq_false (fun q => z (by rw [q])), Bool.or_false]
theorem n5 {i : Nat} (h : i < 5) : ¬ (5 : Int32) ≤ nI i := by
  show ¬ nI 5 ≤ nI i
  exact nI_ge h (by decide)
theorem n32 {i : Nat} (h : i < 32) : ¬ (32 : Int32) ≤ nI i := by
  show ¬ nI 32 ≤ nI i
  exact nI_ge h (by decide)
theorem x_spread {D : Nat → Bool} (hD : ∀ g, g < 1024 → gMk S g = D g) : ∃ S', fX10_spreadMarks S = some ((), S') ∧ Fr [53] S S' ∧ ∀ g, g < 1024 → gMk S' g = gZt D 10 g := by
  unfold fX10_spreadMarks
  rw [glet_s]
  -- within the words
  obtain ⟨S1, a1, a2, a3⟩ := up_loop (fun n S w => fX10_spreadMarks_2 n S w) 32 (fun w S2 => Fr [53] S S2 ∧ ∀ g, g < 1024 → gMk S2 g = if g / 32 < w then gZt D 5 g else D g) (fun S => fX10_spreadMarks_54 FU S 0)
    (fun n S2 h => by rw [fX10_spreadMarks_2, if_pos (show (32 : Int32) ≤ nI 32 by decide), glet_s])
    (fun n w S2 hw h => by
      obtain ⟨h1, h2⟩ := h
      rw [fX10_spreadMarks_2, if_neg (n32 hw), glet_s]
      obtain ⟨S3, b1, b2, b3⟩ := up_loop (fun n1 S f => fX10_spreadMarks_10 (fX10_spreadMarks_2 n) n1 S (nI w) f) 5 (fun f S3 => Fr [53] S S3 ∧ ∀ g, g < 1024 → gMk S3 g = if g / 32 < w then gZt D 5 g else if g / 32 = w then gZt D f g else D g) (fun S => fX10_spreadMarks_2 n S (nI (w + 1)))
        (fun n1 S3 h => by rw [fX10_spreadMarks_10, if_pos (show (5 : Int32) ≤ nI 5 by decide), glet_s, nI_1])
        (fun n1 f S3 hf h => by
          obtain ⟨g1, g2⟩ := h
          obtain ⟨s1, s2, s3⟩ := sw5 f hf
          rw [fX10_spreadMarks_10, if_neg (n5 hf), if_pos (gib_nI hw (by decide)), nI_clamp (show w < 2 ^ 31 by omega), if_pos (gib_nI hf (by decide)), s2]
          simp only [glet_s, nI_1]
          refine ⟨_, rfl, g1.put (by simp) _ _, fun g hg => ?_⟩
          unfold gMk
          rw [gsi_r]
          by_cases z : g / 32 = w
          · rw [if_pos ⟨rfl, z⟩, if_neg (by omega), if_pos z, b_or, b_shl _ s3 _ (show g % 32 < 32 by omega), b_and]
            obtain ⟨l1, l2, l3, l4⟩ := gl5 f hf g hg
            obtain ⟨m1, m2⟩ := lo5 f hf (g % 32) (by omega)
            have e1 : bt (S3.1 53 w) (g % 32) = gZt D f g := by
              have := g2 g hg
              unfold gMk at this
              rw [z, if_neg (by omega), if_pos rfl] at this
              exact this
            rw [e1]
            show _ = (gZt D f g || (g.testBit f && gZt D f (g ^^^ 2 ^ f)))
            congr 1
            by_cases q : 2 ^ f ≤ g % 32
            · rw [decide_eq_true q, Bool.true_and, s1 _ (Nat.lt_of_le_of_lt (Nat.sub_le _ _) (Nat.mod_lt _ (by decide)))]
              rw [decide_eq_true q, Bool.true_and] at m1
              rw [m1, l3, Bool.and_comm]
              cases hb : (g % 32).testBit f
              · rfl
              · obtain ⟨m3, m4⟩ := m2 hb
                have e2 : bt (S3.1 53 w) (g % 32 - 2 ^ f) = gZt D f (g ^^^ 2 ^ f) := by
                  have := g2 (g ^^^ 2 ^ f) l4
                  unfold gMk at this
                  rw [l1, l2, z, if_neg (by omega), if_pos rfl] at this
                  rw [m3]; exact this
                rw [e2]
            · rw [decide_eq_false q, Bool.false_and] at m1
              rw [decide_eq_false q, l3, ← m1]; rfl
          · rw [if_neg (by rintro ⟨-, y⟩; exact z y), if_neg z]
            have := g2 g hg
            unfold gMk at this
            rw [if_neg z] at this
            exact this)
        S2 ⟨h1, fun g hg => by
          rw [h2 g hg]
          by_cases z : g / 32 < w
          · rw [if_pos z, if_pos z]
          · rw [if_neg z, if_neg z]
            split <;> rfl⟩ FU (FU_gt (by omega))
      refine ⟨S3, b1, b2, fun g hg => ?_⟩
      rw [b3 g hg]
      by_cases z : g / 32 < w
      · rw [if_pos z, if_pos (by omega)]
      · rw [if_neg z]
        by_cases z2 : g / 32 = w
        · rw [if_pos z2, if_pos (by omega)]
        · rw [if_neg z2, if_neg (by omega)])
    S ⟨Fr.rf, fun g hg => by rw [hD g hg, if_neg (by omega)]⟩ FU (FU_gt (by omega))
  -- from word to word
  obtain ⟨S2, c1, c2, c3⟩ := up_loop (fun n S f => fX10_spreadMarks_54 n S f) 5 (fun f S2 => Fr [53] S S2 ∧ ∀ g, g < 1024 → gMk S2 g = gZt D (5 + f) g) (fun S => some ((), S))
    (fun n S2 h => by rw [fX10_spreadMarks_54, if_pos (show (5 : Int32) ≤ nI 5 by decide)])
    (fun n f S2 hf h => by
      obtain ⟨h1, h2⟩ := h
      rw [fX10_spreadMarks_54, if_neg (n5 hf), glet_s]
      have zstep : ∀ g, gZt D (5 + (f + 1)) g = (gZt D (5 + f) g || (g.testBit (5 + f) && gZt D (5 + f) (g ^^^ 2 ^ (5 + f)))) := fun g => rfl
      obtain ⟨S3, b1, b2, b3⟩ := up_loop (fun n1 S w => fX10_spreadMarks_61 (fX10_spreadMarks_54 n) n1 S (nI f) w) 32 (fun w S3 => Fr [53] S S3 ∧ ∀ g, g < 1024 → gMk S3 g = if g / 32 < w then gZt D (5 + (f + 1)) g else gZt D (5 + f) g) (fun S => fX10_spreadMarks_54 n S (nI (f + 1)))
        (fun n1 S3 h => by rw [fX10_spreadMarks_61, if_pos (show (32 : Int32) ≤ nI 32 by decide), glet_s, nI_1])
        (fun n1 w S3 hw h => by
          obtain ⟨g1, g2⟩ := h
          obtain ⟨-, s2, -⟩ := sw5 f hf
          obtain ⟨i1, i2, i3⟩ := hi5 f hf w hw
          rw [fX10_spreadMarks_61, if_neg (n32 hw), x_has _ (show f < 32 by omega), gbv_s, b_nI (show f < 32 by omega)]
          simp only [gz_0, glet_s, nI_1]
          cases hb : w.testBit f
          · rw [if_pos rfl]
            refine ⟨S3, rfl, g1, fun g hg => ?_⟩
            rw [g2 g hg]
            by_cases z : g / 32 = w
            · rw [if_neg (by omega), if_pos (by omega), zstep]
              obtain ⟨_, _, l3, _, _⟩ := gh5 f hf g hg
              rw [l3, z, hb]; simp
            · have : (g / 32 < w + 1) = (g / 32 < w) := by apply propext; omega
              simp only [this]
          · rw [if_neg (by decide), if_pos (gib_nI hw (by decide)), nI_clamp (show w < 2 ^ 31 by omega), s2, i3, if_pos (gib_nI i1 (by decide)), nI_clamp (show w ^^^ 2 ^ f < 2 ^ 31 by omega)]
            refine ⟨_, rfl, g1.put (by simp) _ _, fun g hg => ?_⟩
            unfold gMk
            rw [gsi_r]
            by_cases z : g / 32 = w
            · rw [if_pos ⟨rfl, z⟩, if_pos (by omega), b_or, zstep]
              obtain ⟨l1, l2, l3, l4, l5⟩ := gh5 f hf g hg
              have hl : g.testBit (5 + f) = true := by rw [l3, z]; exact hb
              have e1 : bt (S3.1 53 w) (g % 32) = gZt D (5 + f) g := by
                have := g2 g hg
                unfold gMk at this
                rw [z, if_neg (by omega)] at this
                exact this
              have e2 : bt (S3.1 53 (w ^^^ 2 ^ f)) (g % 32) = gZt D (5 + f) (g ^^^ 2 ^ (5 + f)) := by
                have := g2 (g ^^^ 2 ^ (5 + f)) l4
                unfold gMk at this
                rw [l1, l2, z, if_pos (i2 hb), zstep, l5, hl] at this
                rw [this]; simp
              rw [e1, e2, hl]; rfl
            · rw [if_neg (by rintro ⟨-, y⟩; exact z y)]
              have : (g / 32 < w + 1) = (g / 32 < w) := by apply propext; omega
              simp only [this]
              exact g2 g hg)
        S2 ⟨h1, fun g hg => by rw [h2 g hg, if_neg (by omega)]⟩ FU (FU_gt (by omega))
      refine ⟨S3, b1, b2, fun g hg => ?_⟩
      rw [b3 g hg, if_pos (by omega)])
    S1 ⟨a2, fun g hg => by rw [a3 g hg, if_pos (by omega)]⟩ FU (FU_gt (by omega))
  refine ⟨S2, ?_, c2, c3⟩
  rw [show (0 : Int32) = nI 0 from rfl] at *
  rw [a1, c1]
/-- a case that holds a point on its own facts -/
def CT.hd (X : CT) (day : Int32) (a i : Nat) : Bool := X.Td day i && gHe X.f X.cn X.ld X.nn i a (X.f 11 i)
def CT.fx (X : CT) (c : Nat) : Nat := (X.f 11 c).toNatClampNeg
def CT.df (X : CT) (day : Int32) (a b : Nat) (g : Nat) : Bool := gAny 32 (fun i => X.hd day a i && gAny 32 (fun k => X.hd day b k && decide (X.fx i ^^^ X.fx k = g)))
def CT.pt (X : CT) (day : Int32) (a b : Nat) (s : Nat) : Bool := !(gAny 32 (fun i => X.hd day a i && gAny 32 (fun k => X.hd day b k && decide ((X.fx i ^^^ X.fx k) &&& s = 0))))
theorem CT.fx_lt (hX : X.ok) {c : Nat} (hc : c < X.nk) : X.fx c < 1024 ∧ X.f 11 c = nI (X.fx c) := by
  have w := (hX.D.2.2.2.1.2.2.2.1 c hc).2.2.2.2.2.2.2.2.2.1
  exact gib_all w (by decide)
theorem CT.hd_lt (hX : X.ok) {day : Int32} {a i : Nat} (h : X.hd day a i = true) : i < X.nk := by
  unfold CT.hd at h
  simp only [Bool.and_eq_true] at h
  exact CT.Td_lt hX h.1
theorem xorlt {a b : Nat} (ha : a < 1024) (hb : b < 1024) : a ^^^ b < 1024 := by
  refine Nat.lt_pow_two_of_testBit (n := 10) _ (fun i hi => ?_)
  rw [Nat.testBit_xor, lt10 ha hi, lt10 hb hi]; rfl
theorem CT.pt_iff (hX : X.ok) {day : Int32} {a b s : Nat} (hs : s < 1024) : X.pt day a b s = !(gZt (X.df day a b) 10 (1023 ^^^ s)) := by
  have hc : 1023 ^^^ s < 1024 := xorlt (by decide) hs
  have hbit : ∀ i, i < 10 → (1023 ^^^ s).testBit i = !(s.testBit i) := by
    intro i hi
    rw [Nat.testBit_xor]
    have : (1023 : Nat).testBit i = true := by
      rcases (show i = 0 ∨ i = 1 ∨ i = 2 ∨ i = 3 ∨ i = 4 ∨ i = 5 ∨ i = 6 ∨ i = 7 ∨ i = 8 ∨ i = 9 by omega) with rfl | rfl | rfl | rfl | rfl | rfl | rfl | rfl | rfl | rfl <;> rfl
    rw [this]; cases s.testBit i <;> rfl
  unfold CT.pt
  congr 1
  apply bool_iff
  rw [zt_spec 10 (Nat.le_refl _) _ hc]
  unfold CT.df
  simp only [gAny_iff, Bool.and_eq_true, decide_eq_true_eq]
  constructor
  · rintro ⟨i, i1, i2, k, k1, k2, k3⟩
    refine ⟨X.fx i ^^^ X.fx k, xorlt (CT.fx_lt hX (CT.hd_lt hX i2)).1 (CT.fx_lt hX (CT.hd_lt hX k2)).1, ⟨i, i1, i2, k, k1, k2, rfl⟩, fun j hj hb => ?_, fun j a b => by omega⟩
    rw [hbit j hj]
    have := congrArg (fun x => Nat.testBit x j) k3
    simp only [Nat.testBit_and, hb, Nat.zero_testBit, Bool.true_and] at this
    rw [this]; rfl
  · rintro ⟨d, d1, ⟨i, i1, i2, k, k1, k2, k3⟩, d3, -⟩
    refine ⟨i, i1, i2, k, k1, k2, ?_⟩
    rw [k3]
    apply Nat.eq_of_testBit_eq
    intro j
    rw [Nat.testBit_and, Nat.zero_testBit]
    by_cases hj : j < 10
    · cases hb : d.testBit j
      · rfl
      · have := d3 j hj hb
        rw [hbit j hj] at this
        simpa using this
    · rw [lt10 d1 (by omega)]; rfl
theorem x_marks {k wo day : Int32} (hC : CTof X S k wo) (hW : WA X day S1) (h7 : S1.1 7 0 = nI X.nk) {a b : Nat} (ha : a < 12) (hb : b < 12) : ∃ S', fX10_markDifferences S1 (nI a) (nI b) = some ((), S') ∧ Fr [53] S1 S' ∧ ∀ g, g < 1024 → gMk S' g = gZt (X.df day a b) 10 g := by
  obtain ⟨k1, k2, k3⟩ := hC.nk
  unfold fX10_markDifferences
  obtain ⟨S3, a1, a2, a3⟩ := x_fill (S := S1) (a := 53) rfl (by decide) 0
  rw [a1, gbd_s, glet_s]
  have hWf : ∀ S2, Fr [53] S1 S2 → WA X day S2 := fun S2 q => hW.cg (fun c hc => q.1 c (by simp; omega)) (by rw [q.2])
  have run : ∃ S', fX10_markDifferences_10 FU S3 (nI a) (nI b) 0 = (gbd (fX10_spreadMarks S') fun r3 S4 => some ((), S4)) ∧ Fr [53] S1 S' ∧ ∀ g, g < 1024 → gMk S' g = gAny X.nk (fun i => X.hd day a i && gAny X.nk (fun k => X.hd day b k && decide (X.fx i ^^^ X.fx k = g))) := by
    refine up_any (fun n (S2 : GS) i => fX10_markDifferences_10 n S2 (nI a) (nI b) i) X.nk (fun i S2 => Fr [53] S1 S2 ∧ ∀ g, g < 1024 → gMk S2 g = gAny i (fun i => X.hd day a i && gAny X.nk (fun k => X.hd day b k && decide (X.fx i ^^^ X.fx k = g)))) (fun r => ∃ S', r = (gbd (fX10_spreadMarks S') fun r3 S4 => some ((), S4)) ∧ Fr [53] S1 S' ∧ ∀ g, g < 1024 → gMk S' g = gAny X.nk (fun i => X.hd day a i && gAny X.nk (fun k => X.hd day b k && decide (X.fx i ^^^ X.fx k = g))))
      (fun n S2 h => ?_) (fun n i S2 hi h => Or.inr ?_) S3 ⟨a2, fun g hg => ?_⟩ FU (FU_gt (by omega))
    · show ∃ S', fX10_markDifferences_10 (n + 1) S2 (nI a) (nI b) (nI X.nk) = _ ∧ _
      rw [fX10_markDifferences_10, h.1.at 7 (by decide), h7, if_pos (nI_le (Nat.le_refl _) (by omega))]
      exact ⟨S2, rfl, h⟩
    · show ∃ s', fX10_markDifferences_10 (n + 1) S2 (nI a) (nI b) (nI i) = fX10_markDifferences_10 n s' (nI a) (nI b) (nI (i + 1)) ∧ _
      obtain ⟨h1, h2⟩ := h
      have hW2 := hWf S2 h1
      have skip : X.hd day a i = false → ∃ s', fX10_markDifferences_10 n S2 (nI a) (nI b) (nI (i + 1)) = fX10_markDifferences_10 n s' (nI a) (nI b) (nI (i + 1)) ∧ Fr [53] S1 s' ∧ ∀ g, g < 1024 → gMk s' g = gAny (i + 1) (fun i => X.hd day a i && gAny X.nk (fun k => X.hd day b k && decide (X.fx i ^^^ X.fx k = g))) :=
        fun hz => ⟨S2, rfl, h1, fun g hg => by rw [h2 g hg, gAny_s i, hz]; simp⟩
      rw [fX10_markDifferences_10, h1.at 7 (by decide), h7, if_neg (nI_ge hi (by omega)), x_there hW2 (show i < 32 by omega), gbv_s]
      simp only [gz_0, glet_s, nI_1]
      cases hT : X.Td day i
      · rw [if_pos rfl]; exact skip (by unfold CT.hd; rw [hT]; rfl)
      · rw [if_neg (by decide), if_pos (gib_nI (show i < 32 by omega) (by decide)), nI_clamp (show i < 2 ^ 31 by omega), hW2.1.1.1.1.1 11 (by decide), x_held hC.1.D hW2.1.1.1.1 hi (by omega), gbv_s]
        simp only [gz_0]
        cases hh : gHe X.f X.cn X.ld X.nn i a (X.f 11 i)
        · rw [if_pos rfl]; exact skip (by unfold CT.hd; rw [hh]; simp)
        · rw [if_neg (by decide)]
          have hdi : X.hd day a i = true := by unfold CT.hd; rw [hT, hh]; rfl
          obtain ⟨fi1, fi2⟩ := CT.fx_lt hC.1 hi
          obtain ⟨S4, b1, b2, b3⟩ : ∃ S4, fX10_markDifferences_59 (fX10_markDifferences_10 n) FU S2 (nI a) (nI b) (nI i) 0 = fX10_markDifferences_10 n S4 (nI a) (nI b) (nI (i + 1)) ∧ Fr [53] S1 S4 ∧ ∀ g, g < 1024 → gMk S4 g = (gMk S2 g || gAny X.nk (fun k => X.hd day b k && decide (X.fx i ^^^ X.fx k = g))) := by
            refine up_any (fun n1 (S4 : GS) j => fX10_markDifferences_59 (fX10_markDifferences_10 n) n1 S4 (nI a) (nI b) (nI i) j) X.nk (fun j S4 => Fr [53] S1 S4 ∧ ∀ g, g < 1024 → gMk S4 g = (gMk S2 g || gAny j (fun k => X.hd day b k && decide (X.fx i ^^^ X.fx k = g)))) (fun r => ∃ S4, r = fX10_markDifferences_10 n S4 (nI a) (nI b) (nI (i + 1)) ∧ Fr [53] S1 S4 ∧ ∀ g, g < 1024 → gMk S4 g = (gMk S2 g || gAny X.nk (fun k => X.hd day b k && decide (X.fx i ^^^ X.fx k = g))))
              (fun n1 S4 h => ?_) (fun n1 j S4 hj h => Or.inr ?_) S2 ⟨h1, fun g hg => (by rw [gAny_0, Bool.or_false])⟩ FU (FU_gt (by omega))
            · show ∃ S', fX10_markDifferences_59 (fX10_markDifferences_10 n) (n1 + 1) S4 (nI a) (nI b) (nI i) (nI X.nk) = _ ∧ _
              rw [fX10_markDifferences_59, h.1.at 7 (by decide), h7, if_pos (nI_le (Nat.le_refl _) (by omega)), glet_s, nI_1]
              exact ⟨S4, rfl, h⟩
            · show ∃ s', fX10_markDifferences_59 (fX10_markDifferences_10 n) (n1 + 1) S4 (nI a) (nI b) (nI i) (nI j) = fX10_markDifferences_59 (fX10_markDifferences_10 n) n1 s' (nI a) (nI b) (nI i) (nI (j + 1)) ∧ _
              obtain ⟨q1, q2⟩ := h
              have hW4 := hWf S4 q1
              have skip2 : X.hd day b j = false → ∃ s', fX10_markDifferences_59 (fX10_markDifferences_10 n) n1 S4 (nI a) (nI b) (nI i) (nI (j + 1)) = fX10_markDifferences_59 (fX10_markDifferences_10 n) n1 s' (nI a) (nI b) (nI i) (nI (j + 1)) ∧ Fr [53] S1 s' ∧ ∀ g, g < 1024 → gMk s' g = (gMk S2 g || gAny (j + 1) (fun k => X.hd day b k && decide (X.fx i ^^^ X.fx k = g))) :=
                fun hz => ⟨S4, rfl, q1, fun g hg => by rw [q2 g hg, gAny_s j, hz]; simp⟩
              rw [fX10_markDifferences_59, q1.at 7 (by decide), h7, if_neg (nI_ge hj (by omega)), x_there hW4 (show j < 32 by omega), gbv_s]
              simp only [gz_0, glet_s, nI_1]
              cases hTj : X.Td day j
              · rw [if_pos rfl]; exact skip2 (by unfold CT.hd; rw [hTj]; rfl)
              · rw [if_neg (by decide), if_pos (gib_nI (show j < 32 by omega) (by decide)), nI_clamp (show j < 2 ^ 31 by omega), hW4.1.1.1.1.1 11 (by decide), x_held hC.1.D hW4.1.1.1.1 hj (by omega), gbv_s]
                simp only [gz_0]
                cases hhj : gHe X.f X.cn X.ld X.nn j b (X.f 11 j)
                · rw [if_pos rfl]; exact skip2 (by unfold CT.hd; rw [hhj]; simp)
                · have hdj : X.hd day b j = true := by unfold CT.hd; rw [hTj, hhj]; rfl
                  obtain ⟨fj1, fj2⟩ := CT.fx_lt hC.1 hj
                  rw [if_neg (by decide), if_pos (gib_nI (show i < 32 by omega) (by decide)), nI_clamp (show i < 2 ^ 31 by omega), fi2, fj2, nx_xor]
                  obtain ⟨S5, r1, r2, r3⟩ := x_mark (S := S4) (xorlt fi1 fj1)
                  rw [r1, gbd_s]
                  refine ⟨S5, rfl, (q1.tr r2).mono (by simp), fun g hg => ?_⟩
                  rw [r3 g hg, q2 g hg, gAny_s j, hdj, Bool.true_and, Bool.or_assoc]
                  have hdq : decide (g = X.fx i ^^^ X.fx j) = decide (X.fx i ^^^ X.fx j = g) := by
                    by_cases z : g = X.fx i ^^^ X.fx j
                    · rw [decide_eq_true z, decide_eq_true z.symm]
                    · rw [decide_eq_false z, decide_eq_false (fun w => z w.symm)]
                  rw [hdq]
          refine ⟨S4, b1, b2, fun g hg => ?_⟩
          rw [b3 g hg, h2 g hg, gAny_s i, hdi, Bool.true_and]
    · unfold gMk
      rw [a3 _ (show g / 32 < 32 by omega), b_0]; rfl
  obtain ⟨S5, b1, b2, b3⟩ := run
  rw [b1]
  have b3' : ∀ g, g < 1024 → gMk S5 g = X.df day a b g := fun g hg => by
    rw [b3 g hg]
    unfold CT.df
    apply bool_iff
    simp only [gAny_iff, Bool.and_eq_true]
    constructor
    · rintro ⟨i, i1, i2, k, k1, k2⟩; exact ⟨i, by omega, i2, k, by omega, k2⟩
    · rintro ⟨i, i1, i2, k, k1, k2, k3⟩; exact ⟨i, CT.hd_lt hC.1 i2, i2, k, CT.hd_lt hC.1 k2, k2, k3⟩
  obtain ⟨S6, c1, c2, c3⟩ := x_spread b3'
  rw [c1, gbd_s]
  exact ⟨S6, rfl, (b2.tr c2).mono (by simp), c3⟩
theorem x_marked {g : Nat} (hg : g < 1024) : fX10_isMarked S (nI g) = some (gz (gMk S g)) := by
  unfold fX10_isMarked
  rw [(sh5 g hg).1, (sh5 g hg).2, if_pos (gib_nI (show g / 32 < 32 by omega) (by decide)), nI_clamp (by omega), x_has _ (show g % 32 < 32 by omega), gbv_s, if_pos (gzb _)]
  rfl
/-- the fewest facts that tell, all sets below a bound looked at -/
def gFt (P : Nat → Bool) : Nat → Option Nat
  | 0 => none
  | g + 1 => match gFt P g with
    | none => if P g = true then some g else none
    | some b => if gCt g < gCt b ∧ P g = true then some g else some b
theorem ft_lt {P : Nat → Bool} : ∀ {g b : Nat}, gFt P g = some b → b < g
  | 0, b, h => by cases h
  | g + 1, b, h => by
    cases hq : gFt P g with
    | none =>
      have e : gFt P (g + 1) = if P g = true then some g else none := by
        show (match gFt P g with | none => _ | some b => _) = _
        rw [hq]
      rw [e] at h
      split at h
      · injection h with h; omega
      · cases h
    | some c =>
      have e : gFt P (g + 1) = if gCt g < gCt c ∧ P g = true then some g else some c := by
        show (match gFt P g with | none => _ | some b => _) = _
        rw [hq]
      rw [e] at h
      have := ft_lt hq
      split at h
      · injection h with h; omega
      · injection h with h; omega
theorem ft_step {P : Nat → Bool} {g : Nat} : gFt P (g + 1) = match gFt P g with | none => (if P g = true then some g else none) | some b => (if gCt g < gCt b ∧ P g = true then some g else some b) := rfl
def gFv : Option Nat → Int32
  | none => -1
  | some b => nI b
theorem x_tell {P : Nat → Bool} (hP : ∀ s, s < 1024 → P s = !(gMk S (1023 ^^^ s))) (hz : P 1023 = false → ∀ s, s < 1024 → P s = false) : fX10_fewestThatTell S = some (gFv (gFt P 1024)) := by
  have none_of : ∀ g, g ≤ 1024 → (∀ s, s < g → P s = false) → gFt P g = none := by
    intro g
    induction g with
    | zero => intro _ _; rfl
    | succ g ih =>
      intro hg h
      rw [ft_step, ih (by omega) (fun s hs => h s (by omega))]
      show (if P g = true then some g else none) = none
      rw [if_neg (by rw [h g (by omega)]; decide)]
  have m0 : fX10_isMarked S 0 = some (gz (gMk S 0)) := x_marked (g := 0) (by decide)
  have p1023 : P 1023 = !(gMk S 0) := hP 1023 (by decide)
  unfold fX10_fewestThatTell
  rw [m0, gbv_s]
  simp only [gz_0, glet_s]
  cases hm : gMk S 0
  · rw [if_pos rfl]
    have p1023 : P 1023 = true := by rw [p1023, hm]; rfl
    have fin : gFt P 1024 = match gFt P 1023 with | none => some 1023 | some b => some b := by
      rw [show (1024 : Nat) = 1023 + 1 from rfl, ft_step]
      cases hq : gFt P 1023 with
      | none =>
        show (if P 1023 = true then some 1023 else none) = some 1023
        rw [if_pos p1023]
      | some b =>
        show (if gCt 1023 < gCt b ∧ P 1023 = true then some 1023 else some b) = some b
        have hb := ft_lt hq
        have c1 : gCt 1023 = 10 := ct10m
        have c2 : gCt b < 10 := ct10 b hb
        rw [if_neg (by omega)]
    refine up_any (fun n (s : Int32 × Int32) g => fX10_fewestThatTell_19 n S s.1 s.2 g) 1023 (fun g s => (gFt P g = none ∧ s = (1023, 10)) ∨ ∃ b, gFt P g = some b ∧ s = (nI b, nI (gCt b))) (fun r => r = some (gFv (gFt P 1024)))
      (fun n s h => ?_) (fun n g s hg h => Or.inr ?_) (1023, 10) (Or.inl ⟨rfl, rfl⟩) FU (FU_gt (by omega))
    · obtain ⟨A, V⟩ := s
      show fX10_fewestThatTell_19 (n + 1) S A V (nI 1023) = _
      rw [fX10_fewestThatTell_19, if_pos (show (1023 : Int32) ≤ nI 1023 by decide), fin]
      rcases h with ⟨h1, h2⟩ | ⟨b, h1, h2⟩
      · have h3 : A = 1023 := congrArg Prod.fst h2
        rw [h1, h3]
        show some (1023 : Int32) = some (nI 1023)
        rw [n1023v]
      · have h3 : A = nI b := congrArg Prod.fst h2
        rw [h1, h3]
        rfl
    · obtain ⟨A, V⟩ := s
      show ∃ s' : Int32 × Int32, fX10_fewestThatTell_19 (n + 1) S A V (nI g) = fX10_fewestThatTell_19 n S s'.1 s'.2 (nI (g + 1)) ∧ _
      have n1023 : ¬ (1023 : Int32) ≤ nI g := by
        show ¬ nI 1023 ≤ nI g
        exact nI_ge hg (by decide)
      have hmk : fX10_isMarked S ((1023 : Int32) &&& (nI g ^^^ (-1))) = some (gz (!(P g))) := by
        rw [co10 g (by omega), x_marked (xorlt (by decide) (by omega)), hP g (by omega)]; simp
      have cg : gCt g < 10 := ct10 g hg
      rw [fX10_fewestThatTell_19, if_neg n1023, x_bits, gCt_32 (by omega), gbv_s, hmk]
      simp only [gbv_s, gz_0, glet_s, nI_1]
      have pf : (!(P g)) = false ↔ P g = true := by cases P g <;> simp
      rcases h with ⟨h1, h2⟩ | ⟨b, h1, h2⟩
      · injection h2 with h2 h3
        subst h2; subst h3
        have l10 : ¬ (10 : Int32) ≤ nI (gCt g) := by
          show ¬ nI 10 ≤ nI (gCt g)
          exact nI_ge cg (by decide)
        rw [if_neg l10]
        by_cases cp : P g = true
        · rw [if_pos (pf.mpr cp)]
          refine ⟨(nI g, nI (gCt g)), rfl, Or.inr ⟨g, ?_, rfl⟩⟩
          rw [ft_step, h1]
          show (if P g = true then some g else none) = some g
          rw [if_pos cp]
        · rw [if_neg (fun z => cp (pf.mp z))]
          refine ⟨(1023, 10), rfl, Or.inl ⟨?_, rfl⟩⟩
          rw [ft_step, h1]
          show (if P g = true then some g else none) = none
          rw [if_neg cp]
      · injection h2 with h2 h3
        subst h2; subst h3
        have cb : gCt b ≤ 12 := fb_ct_le _ _
        have e : gFt P (g + 1) = if gCt g < gCt b ∧ P g = true then some g else some b := by rw [ft_step, h1]
        simp only [nI_leI (show gCt b < 2 ^ 31 by omega) (show gCt g < 2 ^ 31 by omega)]
        by_cases c1 : gCt b ≤ gCt g
        · rw [if_pos c1]
          exact ⟨(nI b, nI (gCt b)), rfl, Or.inr ⟨b, by rw [e, if_neg (by omega)], rfl⟩⟩
        · rw [if_neg c1]
          by_cases cp : P g = true
          · rw [if_pos (pf.mpr cp)]
            exact ⟨(nI g, nI (gCt g)), rfl, Or.inr ⟨g, by rw [e, if_pos ⟨by omega, cp⟩], rfl⟩⟩
          · rw [if_neg (fun z => cp (pf.mp z))]
            exact ⟨(nI b, nI (gCt b)), rfl, Or.inr ⟨b, by rw [e, if_neg (fun z => cp z.2)], rfl⟩⟩
  · rw [if_neg (by decide)]
    rw [hm] at p1023
    rw [none_of 1024 (Nat.le_refl _) (hz p1023)]
    rfl
end

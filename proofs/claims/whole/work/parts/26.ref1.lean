/-! the reference asks of a case, in the same words -/
theorem up_any {σ β : Type} (F : Nat → σ → Int32 → Option β) (N : Nat) (I : Nat → σ → Prop) (Q : Option β → Prop)
    (hx : ∀ n s, I N s → Q (F (n + 1) s (nI N))) (hs : ∀ n i s, i < N → I i s → Q (F (n + 1) s (nI i)) ∨ ∃ s', F (n + 1) s (nI i) = F n s' (nI (i + 1)) ∧ I (i + 1) s') :
    ∀ s, I 0 s → ∀ n, N < n → Q (F n s (nI 0)) := by
  have key : ∀ r i s, i + r = N → I i s → ∀ n, r < n → Q (F n s (nI i)) := by
    intro r
    induction r with
    | zero =>
      intro i s hi h n hn
      obtain ⟨n, rfl⟩ := Nat.exists_eq_add_of_lt hn
      have : i = N := by omega
      subst this
      rw [show 0 + n + 1 = n + 1 by omega]
      exact hx n s h
    | succ r ih =>
      intro i s hi h n hn
      obtain ⟨n, rfl⟩ := Nat.exists_eq_add_of_lt hn
      rcases hs (r + 1 + n) i s (by omega) h with q | ⟨s', h1, h2⟩
      · exact q
      · rw [show r + 1 + n + 1 = (r + 1 + n) + 1 from rfl, h1]
        exact ih (i + 1) s' (by omega) h2 (r + 1 + n) (by omega)
  exact fun s h n hn => key N 0 s (by omega) h n hn
theorem eqI {x : Int32} {N c : Nat} (h : gib x N = true) (hN : N < 2 ^ 31) (hc : c < 2 ^ 31) : (x = nI c) = (x.toNatClampNeg = c) := by
  obtain ⟨j, hj, rfl⟩ := gib_ex h hN
  rw [nI_clamp (by omega)]
  exact propext (nI_eq (by omega) hc)
theorem b_get (x : Int32) {j : Nat} (hj : j < 32) : (x >>> (nI j &&& 31)) &&& 1 = nI (if bt x j = true then 1 else 0) := by
  cases h : bt x j
  · exact (b_tst0 x hj).mpr h
  · exact (b_tst x hj).mpr h
theorem m_bits {S : GS} (x : Int32) : fX11_bits S x = some (nI (fb_ct (bt x) 12)) := by
  have key := up_any (fun n (a : Int32) i => fX11_bits_4 n S x a i) 12 (fun i a => a = nI (fb_ct (bt x) i)) (fun r => r = some (nI (fb_ct (bt x) 12)))
    (fun n a h => by rw [fX11_bits_4, if_pos (show (12 : Int32) ≤ nI 12 by decide), h])
    (fun n i a hi h => Or.inr ⟨a + ((x >>> (nI i &&& 31)) &&& 1), by rw [fX11_bits_4, if_neg (n12 hi)]; simp only [glet_s, nI_1], by rw [h, b_get x (show i < 32 by omega), nI_add, fb_ct_succ]⟩) (nI 0) (by rw [show fb_ct (bt x) 0 = 0 from rfl]) FU (FU_gt (by omega))
  unfold fX11_bits
  rw [glet_s, glet_s, show (0 : Int32) = nI 0 from rfl]
  exact key
/-- the reference's working places for names alone have changed -/
def ME (S S' : GS) : Prop := (∀ c, c ≠ 54 → S'.1 c = S.1 c) ∧ (∀ j, j ≠ 28 → S'.1 54 j = S.1 54 j) ∧ S'.2.2 = S.2.2
def MF (X : CT) (S : GS) : Prop := (∀ c, 55 ≤ c → c ≤ 76 → S.1 c = X.f c) ∧ ∀ j, irel 54 j = true → S.1 54 j = X.f 54 j
def MT (X : CT) (S : GS) : Prop := (∀ n, n < X.nn → S.1 78 n = gz (X.cn n)) ∧ (∀ p, p < X.np → S.1 79 p = nI (X.ld p)) ∧ ∀ p, p < X.np → ∀ q, q < 32 → bt (S.1 80 p) q = X.ag p q
def MW (X : CT) (T : Nat → Bool) (e : Nat) (S : GS) : Prop := (∀ d, X.sn d = true → ∃ i, i < 32 ∧ S.1 82 d = nI i ∧ (i < e ↔ T d = true)) ∧ (∀ d, T d = true → X.sn d = true ∧ S.1 85 d = gz (X.u T d)) ∧ e ≤ 32
section
variable {X : CT} {T : Nat → Bool} {S S' S1 S2 : GS} {day : Int32} {e : Nat}
theorem ME.rf : ME S S := ⟨fun _ _ => rfl, fun _ _ => rfl, rfl⟩
theorem ME.tr (h : ME S S1) (h2 : ME S1 S2) : ME S S2 := ⟨fun c a => (h2.1 c a).trans (h.1 c a), fun j a => (h2.2.1 j a).trans (h.2.1 j a), h2.2.2.trans h.2.2⟩
theorem ME.sl (h : ME S S1) (k j : Nat) (x : Int64) : ME S (gsl S1 k j x) := ⟨h.1, h.2.1, h.2.2⟩
theorem MF.me (h : MF X S) (q : ME S S') : MF X S' := ⟨fun c a b => by rw [q.1 c (by omega)]; exact h.1 c a b, fun j a => by rw [q.2.1 j (by rintro rfl; cases a)]; exact h.2 j a⟩
theorem MT.me (h : MT X S) (q : ME S S') : MT X S' := by unfold MT at h ⊢; rw [q.1 78 (by decide), q.1 79 (by decide), q.1 80 (by decide)]; exact h
theorem MW.me (h : MW X T e S) (q : ME S S') : MW X T e S' := by unfold MW at h ⊢; rw [q.1 82 (by decide), q.1 85 (by decide)]; exact h
theorem CT.ok.n1 (hX : X.ok) {n : Nat} (hn : n < X.nn) : IVn1 X.f X.td X.np X.nk n := hX.D.2.2.2.2.2.2.2 n hn
theorem MF.nn (hX : X.ok) (hF : MF X S) : S.1 54 41 = nI X.nn := by rw [hF.2 41 rfl]; exact hX.D.2.2.2.2.2.1
theorem MF.np (hX : X.ok) (hF : MF X S) : S.1 54 33 = nI X.np := by rw [hF.2 33 rfl]; exact hX.D.2.2.1.2.1
theorem MF.nk (hX : X.ok) (hF : MF X S) : S.1 54 35 = nI X.nk := by rw [hF.2 35 rfl]; exact hX.D.2.2.2.1.2.1
theorem MF.kd (hX : X.ok) (hF : MF X S) {n : Nat} (hn : n < X.nn) : S.1 71 n = X.f 15 n := by rw [hF.1 71 (by decide) (by decide)]; exact (hX.n1 hn).1
theorem MT.lead (hX : X.ok) (hM : MT X S) {x : Int32} (h : gib x X.np = true) {p : Nat} (hp : p < 2 ^ 31) : gib x 12 = true ∧ (S.1 79 x.toNatClampNeg = nI p) = (X.ld x.toNatClampNeg = p) := by
  have hnp := hX.D.2.2.1.2.2.1
  have hx := (gib_all h (by omega)).1
  refine ⟨gib_ge h hnp, ?_⟩
  have := hX.ld_lt _ hx
  rw [hM.2.1 _ hx]
  exact propext (nI_eq (by omega) hp)
theorem k0_le {x : Int32} (h : x = 0) : x ≤ 1 := by rw [h]; decide
theorem k1_le {x : Int32} (h : x = 1) : x ≤ 1 := by rw [h]; decide
theorem m_votes (hX : X.ok) (hF : MF X S) (hM : MT X S) {c p : Nat} {F : Int32} (hc : c < X.nk) (hp : p < 12) : fX11_votes S (nI c) (nI p) F = some (nI (gVt X.f X.cn X.ld X.nn c p F)) := by
  have hnn := hX.D.2.2.2.2.2.2.1
  have hnk := hX.D.2.2.2.1.2.2.1
  unfold fX11_votes
  simp only [glet_s]
  refine up_any (fun n (a : Int32) i => fX11_votes_6 n S (nI c) (nI p) F a i) X.nn (fun i a => ∀ j, j < 32 → bt a j = gAny i (fun n => gOpc X.f X.cn c n && decide (X.f 15 n = 0) && gSp X.f X.ld p F n && decide ((X.f 18 n).toNatClampNeg = j))) (fun r => r = some (nI (gVt X.f X.cn X.ld X.nn c p F)))
    (fun n a h => ?_) (fun n i a hi h => Or.inr ?_) 0 (fun j _ => by rw [b_0]; rfl) FU (FU_gt (by omega))
  · rw [fX11_votes_6, hF.nn hX, if_pos (nI_le (Nat.le_refl _) (by omega)), m_bits, gbv_s]
    congr 2
    have e12 : fb_ct (bt a) 12 = fb_ct (gVj X.f X.cn X.ld X.nn c p F) 12 := fb_ct_cong (fun j hj => h j (by omega))
    rw [e12, show (12 : Nat) = 3 + 9 from rfl, fb_ct_split]
    have z : fb_ct (fun k => gVj X.f X.cn X.ld X.nn c p F (3 + k)) 9 = 0 := by
      rw [fb_ct_zero]
      intro k hk
      apply gAny_f
      intro m hm
      cases hg : gOpc X.f X.cn c m
      · rfl
      · have := (gib_all (hX.D.op hm hg).2.1 (by decide)).1
        have h2 : ¬ (X.f 18 m).toNatClampNeg = 3 + k := by omega
        simp [h2]
    unfold gVt
    omega
  · have skip : (gOpc X.f X.cn c i && decide (X.f 15 i = 0) && gSp X.f X.ld p F i) = false → ∃ s', fX11_votes_6 n S (nI c) (nI p) F a (nI (i + 1)) = fX11_votes_6 n S (nI c) (nI p) F s' (nI (i + 1)) ∧ ∀ j, j < 32 → bt s' j = gAny (i + 1) (fun n => gOpc X.f X.cn c n && decide (X.f 15 n = 0) && gSp X.f X.ld p F n && decide ((X.f 18 n).toNatClampNeg = j)) :=
      fun hz => ⟨a, rfl, fun j hj => by rw [h j hj, gAny_s, hz]; simp⟩
    rw [fX11_votes_6, hF.nn hX, if_neg (nI_ge hi (by omega)), if_pos (gib_nI (show i < 120 by omega) (by decide)), nI_clamp (show i < 2 ^ 31 by omega), hM.1 i hi, hF.kd hX hi]
    simp only [gz_0, glet_s, nI_1]
    cases hcn : X.cn i
    · rw [if_pos rfl]
      exact skip (by simp [gOpc, gOpn, hcn])
    rw [if_neg (by decide)]
    by_cases c0 : X.f 15 i = 0
    · rw [if_pos c0]
      have w := (hX.n1 hi).2.2.2.2.1 (k0_le c0)
      rw [hF.1 73 (by decide) (by decide), hF.1 74 (by decide) (by decide), hF.1 75 (by decide) (by decide), hF.1 76 (by decide) (by decide), w.1, w.2.1, w.2.2.1, w.2.2.2.1]
      simp only [eqI w.2.2.2.2.1 (show X.nk < 2 ^ 31 by omega) (show c < 2 ^ 31 by omega)]
      by_cases cc : (X.f 17 i).toNatClampNeg = c
      · obtain ⟨l1, l2⟩ := hM.lead hX w.2.2.2.2.2.2.1 (show p < 2 ^ 31 by omega)
        rw [if_pos cc, if_pos l1]
        simp only [l2]
        have go : gOpc X.f X.cn c i = true := by simp [gOpc, gOpn, hcn, cc, k0_le c0]
        by_cases cl : X.ld (X.f 19 i).toNatClampNeg = p
        · rw [if_pos cl]
          by_cases cf : X.f 20 i &&& (F ^^^ (-1)) = 0
          · rw [if_pos cf]
            obtain ⟨j3, j4⟩ := gib_all w.2.2.2.2.2.1 (by decide)
            refine ⟨_, rfl, fun j hj => ?_⟩
            apply bool_iff
            rw [j4, b_put (show (X.f 18 i).toNatClampNeg < 32 by omega) hj, h j hj, gAny_s]
            rw [show gSp X.f X.ld p F i = true by unfold gSp; rw [decide_eq_true cf, decide_eq_true cl]; rfl]
            rw [show (j = (X.f 18 i).toNatClampNeg) = ((X.f 18 i).toNatClampNeg = j) from propext eq_comm]
            simp [go, c0]
          · rw [if_neg cf]; exact skip (by unfold gSp; rw [decide_eq_false cf]; simp)
        · rw [if_neg cl]; exact skip (by simp [gSp, cl])
      · rw [if_neg cc]; exact skip (by simp [gOpc, cc])
    · rw [if_neg c0]; exact skip (by simp [c0])
theorem m_held (hX : X.ok) (hF : MF X S) (hM : MT X S) {c p : Nat} {F : Int32} (hc : c < X.nk) (hp : p < 12) : fX11_isHeld S (nI c) (nI p) F = some (gz (gHe X.f X.cn X.ld X.nn c p F)) := by
  have hnk := hX.D.2.2.2.1.2.2.1
  have w := hX.D.2.2.2.1.2.2.2.1 c hc
  obtain ⟨j, hj, ej⟩ := gib_ex w.2.2.2.2.2.2.2.1 (by decide)
  have hv := gVt_le (f := X.f) (cn := X.cn) (ld := X.ld) (nn := X.nn) c p F
  unfold fX11_isHeld
  rw [m_votes hX hF hM hc hp, gbv_s, if_pos (gib_nI (show c < 32 by omega) (by decide)), nI_clamp (by omega), hF.1 68 (by decide) (by decide), w.2.2.1, ej, show (2 : Int32) = nI 2 from rfl, pk_mul]
  unfold gHe
  rw [ej, nI_clamp (by omega)]
  simp only [nI_leI (show 2 * gVt X.f X.cn X.ld X.nn c p F < 2 ^ 31 by omega) (show j < 2 ^ 31 by omega)]
  by_cases c1 : 2 * gVt X.f X.cn X.ld X.nn c p F ≤ j
  · rw [if_pos c1, decide_eq_false (by omega)]; rfl
  · rw [if_neg c1, decide_eq_true (by omega)]; rfl
def gHs (f : Nat → Nat → Int32) (cn : Nat → Bool) (ld : Nat → Nat) (nn c p : Nat) (F : Int32) : Bool := gAny nn (fun n => gOpc f cn c n && decide (f 15 n = 1) && gSp f ld p F n)
theorem sk_split (hX : X.ok) {c p : Nat} {F : Int32} : gSk X.f X.cn X.ld X.nn c p F = (decide (0 < gVt X.f X.cn X.ld X.nn c p F) || gHs X.f X.cn X.ld X.nn c p F) := by
  apply bool_iff
  rw [Bool.or_eq_true, decide_eq_true_eq]
  constructor
  · intro h
    obtain ⟨n, h1, h2⟩ := gAny_iff.mp h
    simp only [Bool.and_eq_true] at h2
    have k : X.f 15 n ≤ 1 := by
      have := h2.1
      simp [gOpc, gOpn] at this
      exact this.1.2
    rw [← kind01 (hX.n1 h1)] at k
    rcases k with k | k
    · left
      refine fb_ct_pos.mpr ⟨(X.f 18 n).toNatClampNeg, (gib_all (hX.D.op h1 h2.1).2.1 (by decide)).1, ?_⟩
      exact gAny_iff.mpr ⟨n, h1, by simp [h2, k]⟩
    · right
      exact gAny_iff.mpr ⟨n, h1, by simp [h2, k]⟩
  · rintro (h | h)
    · obtain ⟨j, j1, j2⟩ := fb_ct_pos.mp h
      obtain ⟨n, n1, n2⟩ := gAny_iff.mp j2
      simp only [Bool.and_eq_true] at n2
      exact gAny_iff.mpr ⟨n, n1, by rw [n2.1.1.1, n2.1.2]; rfl⟩
    · obtain ⟨n, n1, n2⟩ := gAny_iff.mp h
      simp only [Bool.and_eq_true] at n2
      exact gAny_iff.mpr ⟨n, n1, by rw [n2.1.1, n2.2]; rfl⟩
theorem m_said (hX : X.ok) (hF : MF X S) (hM : MT X S) {c p : Nat} {F : Int32} (hc : c < X.nk) (hp : p < 12) : fX11_hasSaid S (nI c) (nI p) F = some (gz (gHs X.f X.cn X.ld X.nn c p F)) := by
  have hnn := hX.D.2.2.2.2.2.2.1
  have hnk := hX.D.2.2.2.1.2.2.1
  unfold fX11_hasSaid
  simp only [glet_s]
  refine up_any (fun n (_ : Unit) i => fX11_hasSaid_3 n S (nI c) (nI p) F i) X.nn (fun i _ => gAny i (fun n => gOpc X.f X.cn c n && decide (X.f 15 n = 1) && gSp X.f X.ld p F n) = false) (fun r => r = some (gz (gHs X.f X.cn X.ld X.nn c p F)))
    (fun n a h => ?_) (fun n i a hi h => ?_) () rfl FU (FU_gt (by omega))
  · rw [fX11_hasSaid_3, hF.nn hX, if_pos (nI_le (Nat.le_refl _) (by omega))]
    unfold gHs
    rw [h]; rfl
  · have skip : (gOpc X.f X.cn c i && decide (X.f 15 i = 1) && gSp X.f X.ld p F i) = false → (fX11_hasSaid_3 n S (nI c) (nI p) F (nI (i + 1)) = some (gz (gHs X.f X.cn X.ld X.nn c p F))) ∨ ∃ s' : Unit, fX11_hasSaid_3 n S (nI c) (nI p) F (nI (i + 1)) = fX11_hasSaid_3 n S (nI c) (nI p) F (nI (i + 1)) ∧ gAny (i + 1) (fun n => gOpc X.f X.cn c n && decide (X.f 15 n = 1) && gSp X.f X.ld p F n) = false :=
      fun hz => Or.inr ⟨(), rfl, by rw [gAny_s, h, hz]; rfl⟩
    rw [fX11_hasSaid_3, hF.nn hX, if_neg (nI_ge hi (by omega)), if_pos (gib_nI (show i < 120 by omega) (by decide)), nI_clamp (show i < 2 ^ 31 by omega), hM.1 i hi, hF.kd hX hi]
    simp only [gz_0, glet_s, nI_1]
    cases hcn : X.cn i
    · rw [if_pos rfl]
      exact skip (by simp [gOpc, gOpn, hcn])
    rw [if_neg (by decide)]
    by_cases c0 : X.f 15 i = 1
    · rw [if_pos c0]
      have w := (hX.n1 hi).2.2.2.2.1 (k1_le c0)
      rw [hF.1 73 (by decide) (by decide), hF.1 75 (by decide) (by decide), hF.1 76 (by decide) (by decide), w.1, w.2.2.1, w.2.2.2.1]
      simp only [eqI w.2.2.2.2.1 (show X.nk < 2 ^ 31 by omega) (show c < 2 ^ 31 by omega)]
      by_cases cc : (X.f 17 i).toNatClampNeg = c
      · obtain ⟨l1, l2⟩ := hM.lead hX w.2.2.2.2.2.2.1 (show p < 2 ^ 31 by omega)
        rw [if_pos cc, if_pos l1]
        simp only [l2]
        by_cases cl : X.ld (X.f 19 i).toNatClampNeg = p
        · rw [if_pos cl]
          by_cases cf : X.f 20 i &&& (F ^^^ (-1)) = 0
          · rw [if_pos cf]
            left
            have : gHs X.f X.cn X.ld X.nn c p F = true := gAny_iff.mpr ⟨i, hi, by rw [show gSp X.f X.ld p F i = true by unfold gSp; rw [decide_eq_true cf, decide_eq_true cl]; rfl]; simp [gOpc, gOpn, hcn, cc, k1_le c0, c0]⟩
            rw [this]; rfl
          · rw [if_neg cf]; exact skip (by unfold gSp; rw [decide_eq_false cf]; simp)
        · rw [if_neg cl]; exact skip (by simp [gSp, cl])
      · rw [if_neg cc]; exact skip (by simp [gOpc, cc])
    · rw [if_neg c0]; exact skip (by simp [c0])
theorem m_taken (hX : X.ok) (hF : MF X S) (hM : MT X S) {c p : Nat} (hc : c < X.nk) (hp : p < 12) : fX11_isTaken S (nI c) (nI p) day = some (gz (gTk X.f X.cn X.ld X.nn c p day)) := by
  have hnn := hX.D.2.2.2.2.2.2.1
  have hnk := hX.D.2.2.2.1.2.2.1
  unfold fX11_isTaken
  simp only [glet_s]
  refine up_any (fun n (_ : Unit) i => fX11_isTaken_3 n S (nI c) (nI p) day i) X.nn (fun i _ => gAny i (fun n => X.cn n && decide (X.f 15 n = 5) && decide (X.ld (X.f 19 n).toNatClampNeg = p) && decide (X.f 20 n ≤ day) && decide (X.f 9 c ≤ X.f 20 n)) = false) (fun r => r = some (gz (gTk X.f X.cn X.ld X.nn c p day)))
    (fun n a h => ?_) (fun n i a hi h => ?_) () rfl FU (FU_gt (by omega))
  · rw [fX11_isTaken_3, hF.nn hX, if_pos (nI_le (Nat.le_refl _) (by omega))]
    unfold gTk
    rw [h]; rfl
  · have skip : (X.cn i && decide (X.f 15 i = 5) && decide (X.ld (X.f 19 i).toNatClampNeg = p) && decide (X.f 20 i ≤ day) && decide (X.f 9 c ≤ X.f 20 i)) = false → (fX11_isTaken_3 n S (nI c) (nI p) day (nI (i + 1)) = some (gz (gTk X.f X.cn X.ld X.nn c p day))) ∨ ∃ s' : Unit, fX11_isTaken_3 n S (nI c) (nI p) day (nI (i + 1)) = fX11_isTaken_3 n S (nI c) (nI p) day (nI (i + 1)) ∧ gAny (i + 1) (fun n => X.cn n && decide (X.f 15 n = 5) && decide (X.ld (X.f 19 n).toNatClampNeg = p) && decide (X.f 20 n ≤ day) && decide (X.f 9 c ≤ X.f 20 n)) = false :=
      fun hz => Or.inr ⟨(), rfl, by rw [gAny_s, h, hz]; rfl⟩
    rw [fX11_isTaken_3, hF.nn hX, if_neg (nI_ge hi (by omega)), if_pos (gib_nI (show i < 120 by omega) (by decide)), nI_clamp (show i < 2 ^ 31 by omega), hM.1 i hi, hF.kd hX hi]
    simp only [gz_0, glet_s, nI_1]
    cases hcn : X.cn i
    · rw [if_pos rfl]
      exact skip (by simp [hcn])
    rw [if_neg (by decide)]
    by_cases c0 : X.f 15 i = 5
    · rw [if_pos c0]
      have w := (hX.n1 hi).2.2.2.2.2.2.1 (by rw [c0]; decide) (by rw [c0]; decide)
      rw [hF.1 74 (by decide) (by decide), hF.1 75 (by decide) (by decide), hF.1 67 (by decide) (by decide), w.1, w.2.1]
      obtain ⟨l1, l2⟩ := hM.lead hX w.2.2.1 (show p < 2 ^ 31 by omega)
      rw [if_pos l1]
      simp only [l2]
      by_cases cl : X.ld (X.f 19 i).toNatClampNeg = p
      · rw [if_pos cl]
        by_cases cd : day < X.f 20 i
        · rw [if_pos cd]; exact skip (by simp [(fa_of_lt cd).2.1])
        · rw [if_neg cd, if_pos (gib_nI (show c < 32 by omega) (by decide)), nI_clamp (show c < 2 ^ 31 by omega), (hX.D.2.2.2.1.2.2.2.1 c hc).2.1]
          by_cases cc : X.f 20 i < X.f 9 c
          · rw [if_pos cc]; exact skip (by simp [(fa_of_lt cc).2.1])
          · rw [if_neg cc]
            left
            have : gTk X.f X.cn X.ld X.nn c p day = true := gAny_iff.mpr ⟨i, hi, by simp [hcn, c0, cl, fa_of_nlt cd, fa_of_nlt cc]⟩
            rw [this]; rfl
      · rw [if_neg cl]; exact skip (by simp [cl])
    · rw [if_neg c0]; exact skip (by simp [c0])
theorem m_laid (hX : X.ok) (hF : MF X S) (hM : MT X S) {p : Nat} (hp : p < 12) : fX11_isLaid S (nI p) day = some (gz (gLa X.f X.cn X.ld X.nn p day)) := by
  have hnn := hX.D.2.2.2.2.2.2.1
  unfold fX11_isLaid
  simp only [glet_s]
  have nm1 : ∀ m : Nat, m < 2 ^ 31 → ¬ nI m = (-1 : Int32) := fun m hm z => by
    have : ¬ nI m < 0 := nI_pos hm
    rw [z] at this
    exact this (by decide)
  refine up_any (fun n (a : Int32) i => fX11_isLaid_5 n S (nI p) day a i) X.nn (fun i a => (a = -1 ∧ gLs X.f X.cn X.ld p day i = (-1, false)) ∨ ∃ m, m < X.nn ∧ a = nI m ∧ gLs X.f X.cn X.ld p day i = (X.f 20 m, decide (X.f 15 m = 6)) ∧ S.1 74 m = X.f 20 m) (fun r => r = some (gz (gLa X.f X.cn X.ld X.nn p day)))
    (fun n a h => ?_) (fun n i a hi h => Or.inr ?_) (-1) (Or.inl ⟨rfl, rfl⟩) FU (FU_gt (by omega))
  · rw [fX11_isLaid_5, hF.nn hX, if_pos (nI_le (Nat.le_refl _) (by omega))]
    unfold gLa
    rcases h with ⟨h1, h2⟩ | ⟨m, h0, h1, h2, h3⟩
    · rw [h1, h2, if_pos rfl]; rfl
    · rw [h1, h2, if_neg (nm1 m (by omega)), if_pos (gib_nI (show m < 120 by omega) (by decide)), nI_clamp (show m < 2 ^ 31 by omega), hF.kd hX h0]
      by_cases c6 : X.f 15 m = 6
      · rw [if_pos c6, decide_eq_true c6]; rfl
      · rw [if_neg c6, decide_eq_false c6]; rfl
  · have e1 : gLs X.f X.cn X.ld p day (i + 1) = if gStt X.f X.cn i = true ∧ X.ld (X.f 19 i).toNatClampNeg = p ∧ X.f 20 i ≤ day ∧ (gLs X.f X.cn X.ld p day i).1 ≤ X.f 20 i then (X.f 20 i, decide (X.f 15 i = 6)) else gLs X.f X.cn X.ld p day i := rfl
    have skip : ¬ (gStt X.f X.cn i = true ∧ X.ld (X.f 19 i).toNatClampNeg = p ∧ X.f 20 i ≤ day ∧ (gLs X.f X.cn X.ld p day i).1 ≤ X.f 20 i) → ∃ s', fX11_isLaid_5 n S (nI p) day a (nI (i + 1)) = fX11_isLaid_5 n S (nI p) day s' (nI (i + 1)) ∧ ((s' = -1 ∧ gLs X.f X.cn X.ld p day (i + 1) = (-1, false)) ∨ ∃ m, m < X.nn ∧ s' = nI m ∧ gLs X.f X.cn X.ld p day (i + 1) = (X.f 20 m, decide (X.f 15 m = 6)) ∧ S.1 74 m = X.f 20 m) :=
      fun hz => ⟨a, rfl, by rw [e1, if_neg hz]; exact h⟩
    rw [fX11_isLaid_5, hF.nn hX, if_neg (nI_ge hi (by omega)), if_pos (gib_nI (show i < 120 by omega) (by decide)), nI_clamp (show i < 2 ^ 31 by omega), hM.1 i hi, hF.kd hX hi]
    simp only [gz_0, glet_s, nI_1]
    cases hcn : X.cn i
    · rw [if_pos rfl]
      exact skip (by simp [gStt, hcn])
    rw [if_neg (by decide)]
    have e47 : (X.f 15 i = 5 ∨ X.f 15 i = 6) → ∃ s', fX11_isLaid_47 (fX11_isLaid_5 n) S (nI p) day a (nI i) = fX11_isLaid_5 n S (nI p) day s' (nI (i + 1)) ∧ ((s' = -1 ∧ gLs X.f X.cn X.ld p day (i + 1) = (-1, false)) ∨ ∃ m, m < X.nn ∧ s' = nI m ∧ gLs X.f X.cn X.ld p day (i + 1) = (X.f 20 m, decide (X.f 15 m = 6)) ∧ S.1 74 m = X.f 20 m) := by
      intro hk
      have hst : gStt X.f X.cn i = true := by simp [gStt, hcn, hk]
      have w := (hX.n1 hi).2.2.2.2.2.2.1 (by rcases hk with z | z <;> rw [z] <;> decide) (by rcases hk with z | z <;> rw [z] <;> decide)
      have e74 : S.1 74 i = X.f 20 i := by rw [hF.1 74 (by decide) (by decide)]; exact w.2.1
      obtain ⟨l1, l2⟩ := hM.lead hX w.2.2.1 (show p < 2 ^ 31 by omega)
      unfold fX11_isLaid_47 fX11_isLaid_98
      rw [if_pos (gib_nI (show i < 120 by omega) (by decide)), nI_clamp (show i < 2 ^ 31 by omega), e74, hF.1 75 (by decide) (by decide), w.1, if_pos l1]
      simp only [l2, glet_s, nI_1]
      by_cases cl : X.ld (X.f 19 i).toNatClampNeg = p
      · rw [if_pos cl]
        by_cases cd : X.f 20 i ≤ day
        · rw [if_pos cd]
          have take : (gLs X.f X.cn X.ld p day i).1 ≤ X.f 20 i → ∃ s', fX11_isLaid_5 n S (nI p) day (nI i) (nI (i + 1)) = fX11_isLaid_5 n S (nI p) day s' (nI (i + 1)) ∧ ((s' = -1 ∧ gLs X.f X.cn X.ld p day (i + 1) = (-1, false)) ∨ ∃ m, m < X.nn ∧ s' = nI m ∧ gLs X.f X.cn X.ld p day (i + 1) = (X.f 20 m, decide (X.f 15 m = 6)) ∧ S.1 74 m = X.f 20 m) :=
            fun hz => ⟨nI i, rfl, Or.inr ⟨i, hi, rfl, by rw [e1, if_pos ⟨hst, cl, cd, hz⟩], e74⟩⟩
          rcases h with ⟨h1, h2⟩ | ⟨m, h0, h1, h2, h3⟩
          · rw [if_pos h1]
            refine take ?_
            rw [h2]
            obtain ⟨v, hv, ev⟩ := gib_ex w.2.2.2 (by decide)
            rw [ev]
            have : ¬ nI v < (0 : Int32) := nI_pos (by omega)
            exact (fa_of_lt (show (-1 : Int32) < nI v from fa_trans (show (-1 : Int32) < 0 by decide) (fa_of_nlt this))).1
          · rw [h1, if_neg (nm1 m (by omega)), if_pos (gib_nI (show m < 120 by omega) (by decide)), nI_clamp (show m < 2 ^ 31 by omega), h3, ← h1]
            by_cases cc : X.f 20 i < X.f 20 m
            · rw [if_pos cc]
              exact skip (fun z => by rw [h2] at z; exact (fa_of_lt cc).2.1 z.2.2.2)
            · rw [if_neg cc]
              exact take (by rw [h2]; exact fa_of_nlt cc)
        · rw [if_neg cd]; exact skip (fun z => cd z.2.2.1)
      · rw [if_neg cl]; exact skip (fun z => cl z.2.1)
    by_cases c5 : X.f 15 i = 5
    · rw [if_pos c5]; exact e47 (Or.inl c5)
    · rw [if_neg c5]
      by_cases c6 : X.f 15 i = 6
      · rw [if_pos c6]; exact e47 (Or.inr c6)
      · rw [if_neg c6]; exact skip (by simp [gStt, c5, c6])
end

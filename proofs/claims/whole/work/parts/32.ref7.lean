/-! the reference: what stands, and by which case -/
def gRk (f : Nat → Nat → Int32) (c : Nat) : Int32 := f 3 (f 8 c).toNatClampNeg
def gBest (f : Nat → Nat → Int32) (o : Nat → Nat) (P : Nat → Prop) (i : Nat) (A : Int32) : Prop := (A = -1 ∧ ∀ j, j < i → ¬ P (o j)) ∨ ∃ j0, j0 < i ∧ A = nI (o j0) ∧ P (o j0) ∧ ∀ j, j < i → P (o j) → j ≠ j0 → (gRk f (o j) < gRk f (o j0) ∨ (gRk f (o j) = gRk f (o j0) ∧ j < j0))
theorem nI_nm1 {m : Nat} (hm : m < 2 ^ 31) : ¬ nI m = (-1 : Int32) := fun z => by
  have : ¬ nI m < 0 := nI_pos hm
  rw [z] at this
  exact this (by decide)
theorem best_no {f : Nat → Nat → Int32} {o : Nat → Nat} {P : Nat → Prop} {i : Nat} {A : Int32} (h : gBest f o P i A) (hz : ¬ P (o i)) : gBest f o P (i + 1) A := by
  rcases h with ⟨h1, h2⟩ | ⟨j0, h1, h2, h3, h4⟩
  · refine Or.inl ⟨h1, fun j hj => ?_⟩
    by_cases z : j = i
    · subst z; exact hz
    · exact h2 j (by omega)
  · refine Or.inr ⟨j0, by omega, h2, h3, fun j hj hP hne => ?_⟩
    by_cases z : j = i
    · subst z; exact absurd hP hz
    · exact h4 j (by omega) hP hne
section
variable {X : CT} {S S' S1 S2 : GS} {m e c i : Nat} {o : Nat → Nat} {day : Int32}
theorem m_before (hX : X.ok) (hF : MF X S) (hO : MO X o m S) (hi : i < m) {P : Nat → Prop} {A : Int32} (h : gBest X.f o P i A) (hP : P (o i)) : ∃ b : Bool, fX11_isBefore S (nI (o i)) A = some (gz b) ∧ gBest X.f o P (i + 1) (if b = true then A else nI (o i)) := by
  have hnk := hX.D.2.2.2.1.2.2.1
  have hnc := hX.D.2.1.2.2.1
  have hm := hO.1
  have ol := hO.lt hX hi
  rcases h with ⟨h1, h2⟩ | ⟨j0, h1, h2, h3, h4⟩
  · refine ⟨false, by unfold fX11_isBefore; rw [if_pos h1]; rfl, ?_⟩
    rw [if_neg (by decide)]
    refine Or.inr ⟨i, by omega, rfl, hP, fun j hj hPj hne => absurd hPj (h2 j (by omega))⟩
  · have ol0 := hO.lt hX (show j0 < m by omega)
    have rd : ∀ d, d < X.nk → gib (S.1 66 d) 6 = true ∧ S.1 63 (S.1 66 d).toNatClampNeg = gRk X.f d := fun d hd => by
      have w := hX.D.2.2.2.1.2.2.2.1 d hd
      rw [hF.1 66 (by decide) (by decide), hF.1 63 (by decide) (by decide), w.1]
      exact ⟨gib_ge w.2.2.2.2.2.1 hnc, (hX.D.2.1.2.2.2 _ (gib_all w.2.2.2.2.2.1 (by omega)).1).1⟩
    unfold fX11_isBefore
    rw [h2, if_neg (nI_nm1 (by omega)), if_pos (gib_nI (show o i < 32 by omega) (by decide)), nI_clamp (show o i < 2 ^ 31 by omega), if_pos (rd _ ol).1, (rd _ ol).2, glet_s, if_pos (gib_nI (show o j0 < 32 by omega) (by decide)), nI_clamp (show o j0 < 2 ^ 31 by omega), if_pos (rd _ ol0).1, (rd _ ol0).2, glet_s, (hO.2.1 i hi).2.2, (hO.2.1 j0 (by omega)).2.2]
    have take : ¬ gRk X.f (o i) < gRk X.f (o j0) → gBest X.f o P (i + 1) (nI (o i)) := by
      intro hz
      refine Or.inr ⟨i, by omega, rfl, hP, fun j hj hPj hne => ?_⟩
      have le := fa_of_nlt hz
      by_cases z : j = j0
      · subst z
        by_cases q : gRk X.f (o j) = gRk X.f (o i)
        · exact Or.inr ⟨q, by omega⟩
        · exact Or.inl (fa_le_ne le q)
      · rcases h4 j (by omega) hPj z with w | ⟨w1, w2⟩
        · exact Or.inl (fa_trans w le)
        · rw [w1]
          by_cases q : gRk X.f (o j0) = gRk X.f (o i)
          · exact Or.inr ⟨q, by omega⟩
          · exact Or.inl (fa_le_ne le q)
    by_cases c1 : gRk X.f (o i) < gRk X.f (o j0)
    · rw [if_pos c1]
      refine ⟨true, rfl, ?_⟩
      rw [if_pos rfl]
      refine Or.inr ⟨j0, by omega, rfl, h3, fun j hj hPj hne => ?_⟩
      by_cases z : j = i
      · subst z; exact Or.inl c1
      · exact h4 j (by omega) hPj hne
    · rw [if_neg c1]
      refine ⟨false, ?_, by rw [if_neg (by decide)]; exact take c1⟩
      by_cases c2 : gRk X.f (o i) = gRk X.f (o j0)
      · rw [if_pos c2, if_pos (nI_le (by omega) (by omega))]; rfl
      · rw [if_neg c2]; rfl
/-- the reference's frame of standOf -/
def Ms (S S' : GS) : Prop := (∀ c, c ≠ 54 → S'.1 c = S.1 c) ∧ (∀ j, j ≠ 28 → j ≠ 60 → S'.1 54 j = S.1 54 j) ∧ S'.2.2 = S.2.2
theorem Ms.rf : Ms S S := ⟨fun _ _ => rfl, fun _ _ _ => rfl, rfl⟩
theorem Ms.tr (h : Ms S S1) (h2 : Ms S1 S2) : Ms S S2 := ⟨fun c a => (h2.1 c a).trans (h.1 c a), fun j a b => (h2.2.1 j a b).trans (h.2.1 j a b), h2.2.2.trans h.2.2⟩
theorem ME.ms (h : ME S S1) : Ms S S1 := ⟨h.1, fun j a _ => h.2.1 j a, h.2.2⟩
theorem Ms.p60 (h : Ms S S1) (x : Int32) : Ms S (gsi S1 54 60 x) := ⟨fun c hc => by rw [gsi_ne hc]; exact h.1 c hc, fun j a b => by rw [gsi_r, if_neg (by rintro ⟨-, z⟩; exact b z)]; exact h.2.1 j a b, h.2.2⟩
theorem Ms.rn (h : Ms S S1) : Rn S S1 := ⟨fun c hc => h.1 c (by omega), fun j a _ _ _ b => h.2.1 j a b, h.2.2⟩
theorem MA.ms (h : MA X o m e day S) (q : Ms S S') : MA X o m e day S' := by
  obtain ⟨h1, h2, h3, h4, h5, h6⟩ := h
  refine ⟨h1.cg (h1.1.rn q.rn) (fun c _ _ => q.1 c (by omega)) (q.2.1 52 (by decide) (by decide)), h2, by rw [q.2.1 58 (by decide) (by decide)]; exact h3, by rw [q.2.1 59 (by decide) (by decide)]; exact h4, h5, ?_⟩
  unfold MW at h6 ⊢
  rw [q.1 82 (by decide), q.1 85 (by decide)]
  exact h6
theorem MA.bl (hA : MA X o m e day S) {d : Nat} (hd : X.Td day d = true) {p : Nat} (hp : p < 12) : bt (S.1 83 d) p = X.bb d p := by
  obtain ⟨i, i1, i2⟩ := (hA.2.2.2.2.1 d).mp hd
  rw [← i2]
  exact (hA.1.2.2.2.2.2 i (by have := hA.2.1; omega)).1 p hp
theorem CT.wt_v {T : Nat → Bool} {B : Nat → Nat → Bool} {p ct d : Nat} {F : Int32} (hT : T d = true) : X.wt T B day p ct F d = if (X.u T d || gOv X.f X.cn X.ld X.nn T (X.u T) X.t1 d p || gTk X.f X.cn X.ld X.nn d p day) = true then 0 else if X.gd T B day d p F = false then (if gSk X.f X.cn X.ld X.nn d p F = true then 1 else 0) else if gBd X.f X.cn X.ld X.nn T (X.u T) X.t0 day d p ct F = false then 1 else if gDb X.f X.cn X.ld X.nn T (X.u T) d p < X.en then 3 else 2 := by
  unfold CT.wt CT.gd gWt
  have hsk := he_sk (f := X.f) (cn := X.cn) (ld := X.ld) (nn := X.nn) (c := d) (p := p) (F := F)
  rw [hT]
  cases hu : X.u T d <;> cases hb : B d p <;> cases hh : gHe X.f X.cn X.ld X.nn d p F <;> cases ho : gOv X.f X.cn X.ld X.nn T (X.u T) X.t1 d p <;> cases ht : gTk X.f X.cn X.ld X.nn d p day <;> cases hs : gSk X.f X.cn X.ld X.nn d p F <;> cases hg : gBd X.f X.cn X.ld X.nn T (X.u T) X.t0 day d p ct F <;> simp [hh, hs] at hsk ⊢
theorem best_end {f : Nat → Nat → Int32} {W : Nat → Nat} {T : Nat → Bool} (hw : ∀ d, W d ≤ 3) (hs : ∀ i j, i < j → j < e → gLat f (o j) (o i)) (h32 : ∀ i, i < e → o i < 32) (hT : ∀ d, 0 < W d → ∃ i, i < e ∧ o i = d) {A3 A2 A1 : Int32} (h3 : gBest f o (fun d => W d = 3) e A3) (h2 : gBest f o (fun d => W d = 2) e A2) (h1 : gBest f o (fun d => 0 < W d) e A1) :
    (A3 ≠ -1 ∧ gIsL f W A3 ∧ gMx W 32 = 3) ∨ (A3 = -1 ∧ A2 ≠ -1 ∧ gIsL f W A2 ∧ gMx W 32 = 2) ∨ (A3 = -1 ∧ A2 = -1 ∧ A1 ≠ -1 ∧ gIsL f W A1 ∧ gMx W 32 = 1) ∨ (A3 = -1 ∧ A2 = -1 ∧ A1 = -1 ∧ gIsL f W (-1) ∧ gMx W 32 = 0) := by
  have lead : ∀ (P : Nat → Prop) (v j0 : Nat), 0 < v → j0 < e → W (o j0) = v → (∀ d, W d ≤ v) → (∀ d, P d ↔ W d = v) → (∀ j, j < e → P (o j) → j ≠ j0 → (gRk f (o j) < gRk f (o j0) ∨ (gRk f (o j) = gRk f (o j0) ∧ j < j0))) → gIsL f W (nI (o j0)) ∧ gMx W 32 = v := by
    intro P v j0 hv hj hW hle hP hb
    refine ⟨Or.inr ⟨o j0, h32 j0 hj, rfl, by omega, fun x hx hWx hne => ?_⟩, ?_⟩
    · obtain ⟨j, j1, rfl⟩ := hT x hWx
      by_cases z : W (o j) = v
      · refine Or.inr ⟨by omega, ?_⟩
        rcases hb j j1 ((hP _).mpr z) (fun w => hne (by rw [w])) with w | ⟨w1, w2⟩
        · exact Or.inl w
        · exact Or.inr ⟨w1, hs j j0 w2 hj⟩
      · have := hle (o j)
        exact Or.inl (by omega)
    · have a := gMx_le hle 32
      have b := gMx_ge (W := W) (h32 j0 hj)
      omega
  rcases h3 with ⟨a1, a2⟩ | ⟨j0, a1, a2, a3, a4⟩
  · have n3 : ∀ d, W d ≤ 2 := fun d => by
      have := hw d
      by_cases z : W d = 3
      · obtain ⟨i, i1, rfl⟩ := hT d (by omega)
        exact absurd z (a2 i i1)
      · omega
    rcases h2 with ⟨b1, b2⟩ | ⟨j0, b1, b2, b3, b4⟩
    · have n2 : ∀ d, W d ≤ 1 := fun d => by
        have := n3 d
        by_cases z : W d = 2
        · obtain ⟨i, i1, rfl⟩ := hT d (by omega)
          exact absurd z (b2 i i1)
        · omega
      rcases h1 with ⟨c1, c2⟩ | ⟨j0, c1, c2, c3, c4⟩
      · have n1 : ∀ d, W d ≤ 0 := fun d => by
          by_cases z : 0 < W d
          · obtain ⟨i, i1, rfl⟩ := hT d z
            exact absurd z (c2 i i1)
          · omega
        refine Or.inr (Or.inr (Or.inr ⟨a1, b1, c1, Or.inl ⟨rfl, fun d _ => ?_⟩, ?_⟩))
        · have := n1 d; omega
        · have := gMx_le n1 32; omega
      · have hW : W (o j0) = 1 := by have := n2 (o j0); omega
        obtain ⟨l1, l2⟩ := lead (fun d => 0 < W d) 1 j0 (by omega) c1 hW n2 (fun d => by have := n2 d; omega) c4
        rw [c2]
        exact Or.inr (Or.inr (Or.inl ⟨a1, b1, nI_nm1 (by have := h32 j0 c1; omega), l1, l2⟩))
    · obtain ⟨l1, l2⟩ := lead (fun d => W d = 2) 2 j0 (by omega) b1 b3 n3 (fun d => Iff.rfl) b4
      rw [b2]
      exact Or.inr (Or.inl ⟨a1, nI_nm1 (by have := h32 j0 b1; omega), l1, l2⟩)
  · obtain ⟨l1, l2⟩ := lead (fun d => W d = 3) 3 j0 (by omega) a1 a3 hw (fun d => Iff.rfl) a4
    rw [a2]
    exact Or.inl ⟨nI_nm1 (by have := h32 j0 a1; omega), l1, l2⟩
theorem m_standOf (hX : X.ok) (hR : X.mx) (hA : MA X o m e day S) {p ct : Nat} {F : Int32} (hp : p < 12) (hct : ct < X.nc) :
    ∃ S' L, fX11_standOf S (nI p) (nI ct) F = some (nI (X.st (X.Td day) X.bb day p ct F), S') ∧ Ms S S' ∧ S'.1 54 60 = L ∧ (if gLa X.f X.cn X.ld X.nn p day = true then L = -1 else gIsL X.f (X.wt (X.Td day) X.bb day p ct F) L) := by
  have hnk := hX.D.2.2.2.1.2.2.1
  have hm := hA.1.2.2.1.1
  have he := hA.2.1
  unfold fX11_standOf CT.st
  rw [glet_s]
  have s1 : Ms S (gsi S 54 60 (-1)) := Ms.rf.p60 _
  have e60 : (gsi S 54 60 (-1)).1 54 60 = -1 := by simp [gsi_r]
  generalize gsi S 54 60 (-1) = S1 at s1 e60 ⊢
  have hA1 := hA.ms s1
  rw [hA1.2.2.2.1, m_laid hX hA1.1.1 hA1.1.2.1 hp, gbv_s]
  simp only [gz_0]
  cases hl : gLa X.f X.cn X.ld X.nn p day
  · rw [if_pos rfl, if_neg (by decide)]
    simp only [glet_s, Bool.false_eq_true, if_false]
    have hw := fun d => CT.wt_le (X := X) (T := X.Td day) (B := X.bb) (day := day) (p := p) (ct := ct) (F := F) d
    obtain ⟨W, hW⟩ : ∃ W, W = X.wt (X.Td day) X.bb day p ct F := ⟨_, rfl⟩
    rw [← hW] at hw ⊢
    have T0 : ∀ d, 0 < W d → ∃ i, i < e ∧ o i = d := fun d hd => by
      refine (hA.2.2.2.2.1 d).mp ?_
      cases h : X.Td day d
      · rw [hW] at hd
        unfold CT.wt at hd
        rw [h] at hd
        simp at hd
      · rfl
    refine up_any (fun n (s : GS × Int32 × Int32 × Int32) i => fX11_standOf_31 n s.1 (nI p) (nI ct) F s.2.1 s.2.2.1 s.2.2.2 i) e (fun i s => ME S1 s.1 ∧ gBest X.f o (fun d => W d = 3) i s.2.1 ∧ gBest X.f o (fun d => W d = 2) i s.2.2.1 ∧ gBest X.f o (fun d => 0 < W d) i s.2.2.2) (fun r => ∃ S' L, r = some (nI (gMx W 32), S') ∧ Ms S S' ∧ S'.1 54 60 = L ∧ gIsL X.f W L)
      (fun n s h => ?_) (fun n i s hi h => Or.inr ?_) (S1, -1, -1, -1) ⟨ME.rf, Or.inl ⟨rfl, fun j hj => absurd hj (Nat.not_lt_zero _)⟩, Or.inl ⟨rfl, fun j hj => absurd hj (Nat.not_lt_zero _)⟩, Or.inl ⟨rfl, fun j hj => absurd hj (Nat.not_lt_zero _)⟩⟩ FU (FU_gt (by omega))
    · obtain ⟨S2, A3, A2, A1⟩ := s
      obtain ⟨h0, h3, h2, h1⟩ := h
      show ∃ S' L, fX11_standOf_31 (n + 1) S2 (nI p) (nI ct) F A3 A2 A1 (nI e) = _ ∧ _
      have hA2 := hA1.ms h0.ms
      rw [fX11_standOf_31, hA2.2.2.1, if_pos (nI_le (Nat.le_refl _) (by omega))]
      unfold fX11_standOf_272
      simp only [glet_s]
      have q60 : ∀ x, Ms S (gsi S2 54 60 x) ∧ (gsi S2 54 60 x).1 54 60 = x := fun x => ⟨(s1.tr h0.ms).p60 x, by simp [gsi_r]⟩
      rcases best_end hw (fun i j a b => hA.1.2.2.1.2.2.1 i j a (by omega)) (fun i hi => by have := hA.1.2.2.1.lt hX (show i < m by omega); omega) (T := X.Td day) T0 h3 h2 h1 with ⟨a, b, c⟩ | ⟨a, b, c, d⟩ | ⟨a, b, c, d, f⟩ | ⟨a, b, c, d, f⟩
      · simp only [if_neg a]
        exact ⟨_, A3, by rw [c]; rfl, (q60 _).1, (q60 _).2, b⟩
      · simp only [if_pos a, if_neg b]
        exact ⟨_, A2, by rw [d]; rfl, (q60 _).1, (q60 _).2, c⟩
      · simp only [if_pos a, if_pos b, if_neg c]
        exact ⟨_, A1, by rw [f]; rfl, (q60 _).1, (q60 _).2, d⟩
      · simp only [if_pos a, if_pos b, if_pos c]
        exact ⟨_, A1, by rw [f]; rfl, (q60 _).1, (q60 _).2, by have c' : A1 = -1 := c; rw [c']; exact d⟩
    · obtain ⟨S2, A3, A2, A1⟩ := s
      obtain ⟨h0, h3, h2, h1⟩ := h
      show ∃ s' : GS × Int32 × Int32 × Int32, fX11_standOf_31 (n + 1) S2 (nI p) (nI ct) F A3 A2 A1 (nI i) = fX11_standOf_31 n s'.1 (nI p) (nI ct) F s'.2.1 s'.2.2.1 s'.2.2.2 (nI (i + 1)) ∧ _
      dsimp only at h0 h3 h2 h1
      have hA2 := hA1.ms h0.ms
      have hTi : X.Td day (o i) = true := (hA.2.2.2.2.1 _).mpr ⟨i, hi, rfl⟩
      have hO2 := hA2.1.2.2.1
      have ol := hO2.lt hX (show i < m by omega)
      have wv := CT.wt_v (X := X) (T := X.Td day) (B := X.bb) (day := day) (p := p) (ct := ct) (d := o i) (F := F) hTi
      rw [← hW] at wv
      have skip : ∀ S3, ME S1 S3 → W (o i) = 0 → ∃ s' : GS × Int32 × Int32 × Int32, fX11_standOf_31 n S3 (nI p) (nI ct) F A3 A2 A1 (nI (i + 1)) = fX11_standOf_31 n s'.1 (nI p) (nI ct) F s'.2.1 s'.2.2.1 s'.2.2.2 (nI (i + 1)) ∧ ME S1 s'.1 ∧ gBest X.f o (fun d => W d = 3) (i + 1) s'.2.1 ∧ gBest X.f o (fun d => W d = 2) (i + 1) s'.2.2.1 ∧ gBest X.f o (fun d => 0 < W d) (i + 1) s'.2.2.2 :=
        fun S3 g hz => ⟨(S3, A3, A2, A1), rfl, g, best_no h3 (by omega), best_no h2 (by omega), best_no h1 (by omega)⟩
      have s221 : ∀ S3 B3 B2, ME S1 S3 → gBest X.f o (fun d => W d = 3) (i + 1) B3 → gBest X.f o (fun d => W d = 2) (i + 1) B2 → 0 < W (o i) → ∃ s' : GS × Int32 × Int32 × Int32, fX11_standOf_221 (fX11_standOf_31 n) S3 (nI p) (nI ct) F B3 B2 A1 (nI i) (nI (o i)) = fX11_standOf_31 n s'.1 (nI p) (nI ct) F s'.2.1 s'.2.2.1 s'.2.2.2 (nI (i + 1)) ∧ ME S1 s'.1 ∧ gBest X.f o (fun d => W d = 3) (i + 1) s'.2.1 ∧ gBest X.f o (fun d => W d = 2) (i + 1) s'.2.2.1 ∧ gBest X.f o (fun d => 0 < W d) (i + 1) s'.2.2.2 := by
        intro S3 B3 B2 g b3 b2 hz
        have hA3 := hA1.ms g.ms
        obtain ⟨b, q1, q2⟩ := m_before hX hA3.1.1 hA3.1.2.2.1 (show i < m by omega) h1 hz
        unfold fX11_standOf_221
        rw [q1, gbv_s]
        simp only [gz_0, glet_s, nI_1]
        cases b
        · rw [if_pos rfl]
          exact ⟨(S3, B3, B2, nI (o i)), rfl, g, b3, b2, q2⟩
        · rw [if_neg (by decide)]
          exact ⟨(S3, B3, B2, A1), rfl, g, b3, b2, q2⟩
      rw [fX11_standOf_31, hA2.2.2.1, if_neg (nI_ge hi (by omega)), if_pos (gib_nI (show i < 32 by omega) (by decide)), nI_clamp (show i < 2 ^ 31 by omega), (hO2.2.1 i (by omega)).1, glet_s, if_pos (gib_nI (show o i < 32 by omega) (by decide)), nI_clamp (show o i < 2 ^ 31 by omega), (hA2.2.2.2.2.2.2.1 _ hTi).2]
      simp only [gz_0, glet_s, nI_1]
      cases hu : X.u (X.Td day) (o i)
      · rw [if_pos rfl]
        obtain ⟨S3, a1, a2⟩ := m_over hX hR hA2.1.1 hA2.1.2.1 hA2.2.2.2.2.2 ol hp
        rw [a1, gbd_s]
        simp only [gz_0]
        have e3 := h0.tr a2
        have hA3 := hA1.ms e3.ms
        cases hov : gOv X.f X.cn X.ld X.nn (X.Td day) (X.u (X.Td day)) X.t1 (o i) p
        · rw [if_pos rfl, hA3.2.2.2.1, m_taken hX hA3.1.1 hA3.1.2.1 ol hp, gbv_s]
          simp only [gz_0]
          cases htk : gTk X.f X.cn X.ld X.nn (o i) p day
          · rw [if_pos rfl, hA3.2.2.1]
            rw [hu, hov, htk, if_neg (by decide)] at wv
            obtain ⟨S4, b1, b2⟩ := m_good (F := F) (day := day) (B := X.bb) hX hR hA3.1.1 hA3.1.2.1 hA3.2.2.2.2.2 hTi hp (hA3.bl hTi hp)
            rw [b1, gbd_s]
            simp only [gz_0]
            have e4 := e3.tr b2
            have hA4 := hA1.ms e4.ms
            cases hg : X.gd (X.Td day) X.bb day (o i) p F
            · rw [if_pos rfl]
              rw [hg, if_pos rfl] at wv
              unfold fX11_standOf_194
              rw [if_pos (by rfl), m_votes hX hA4.1.1 hA4.1.2.1 ol hp, gbv_s]
              have hv := gVt_le (f := X.f) (cn := X.cn) (ld := X.ld) (nn := X.nn) (o i) p F
              rw [show (0 : Int32) = nI 0 from rfl]
              simp only [nI_ltI (show 0 < 2 ^ 31 by omega) (show gVt X.f X.cn X.ld X.nn (o i) p F < 2 ^ 31 by omega)]
              rw [sk_split hX] at wv
              have n3 : ¬ W (o i) = 3 := by rw [wv]; split <;> omega
              have n2 : ¬ W (o i) = 2 := by rw [wv]; split <;> omega
              by_cases cv : 0 < gVt X.f X.cn X.ld X.nn (o i) p F
              · rw [if_pos cv]
                exact s221 S4 A3 A2 e4 (best_no h3 n3) (best_no h2 n2) (by rw [wv, decide_eq_true cv]; simp)
              · rw [if_neg cv, m_said hX hA4.1.1 hA4.1.2.1 ol hp, gbv_s]
                simp only [show nI 0 = (0 : Int32) from rfl, gz_0, glet_s, nI_1]
                rw [decide_eq_false cv, Bool.false_or] at wv
                cases hs : gHs X.f X.cn X.ld X.nn (o i) p F
                · rw [if_pos rfl]
                  exact skip S4 e4 (by rw [wv, hs]; rfl)
                · rw [if_neg (by decide)]
                  exact s221 S4 A3 A2 e4 (best_no h3 n3) (best_no h2 n2) (by rw [wv, hs]; decide)
            · rw [if_neg (by decide), hA4.2.2.1, hA4.2.2.2.1]
              rw [hg, if_neg (by decide)] at wv
              obtain ⟨S5, c1, c2⟩ := m_binding (F := F) (day := day) hX hR hA4.1.1 hA4.1.2.1 hA4.2.2.2.2.2 ol hp hct
              rw [c1, gbd_s]
              simp only [gz_0]
              have e5 := e4.tr c2
              have hA5 := hA1.ms e5.ms
              have s194 : ∀ B3 B2, gBest X.f o (fun d => W d = 3) (i + 1) B3 → gBest X.f o (fun d => W d = 2) (i + 1) B2 → 0 < W (o i) → ∃ s' : GS × Int32 × Int32 × Int32, fX11_standOf_194 (fX11_standOf_31 n) S5 (nI p) (nI ct) F B3 B2 A1 (nI i) (nI (o i)) (gz true) = fX11_standOf_31 n s'.1 (nI p) (nI ct) F s'.2.1 s'.2.2.1 s'.2.2.2 (nI (i + 1)) ∧ ME S1 s'.1 ∧ gBest X.f o (fun d => W d = 3) (i + 1) s'.2.1 ∧ gBest X.f o (fun d => W d = 2) (i + 1) s'.2.2.1 ∧ gBest X.f o (fun d => 0 < W d) (i + 1) s'.2.2.2 := by
                intro B3 B2 b3 b2 hz
                unfold fX11_standOf_194
                rw [if_neg (by decide)]
                exact s221 S5 B3 B2 e5 b3 b2 hz
              cases hb : gBd X.f X.cn X.ld X.nn (X.Td day) (X.u (X.Td day)) X.t0 day (o i) p ct F
              · rw [if_pos rfl]
                rw [hb, if_pos rfl] at wv
                exact s194 A3 A2 (best_no h3 (by omega)) (best_no h2 (by omega)) (by omega)
              · rw [if_neg (by decide), hA5.2.2.1, m_doubts hX hA5.1.1 hA5.1.2.1 hA5.2.2.2.2.2 ol hp, gbv_s]
                rw [hb, if_neg (by decide)] at wv
                have en7 : S5.1 54 7 = nI X.en := by rw [hA5.1.1.2 7 rfl]; exact hR.1
                have hen := hR.2.1
                have hdb := gDb_le (f := X.f) (cn := X.cn) (ld := X.ld) (nn := X.nn) (T := X.Td day) (U := X.u (X.Td day)) (o i) p
                rw [en7]
                simp only [nI_leI (show X.en < 2 ^ 31 by omega) (show gDb X.f X.cn X.ld X.nn (X.Td day) (X.u (X.Td day)) (o i) p < 2 ^ 31 by omega)]
                unfold fX11_standOf_169 fX11_standOf_192
                by_cases ce : X.en ≤ gDb X.f X.cn X.ld X.nn (X.Td day) (X.u (X.Td day)) (o i) p
                · rw [if_pos ce]
                  rw [if_neg (show ¬ gDb X.f X.cn X.ld X.nn (X.Td day) (X.u (X.Td day)) (o i) p < X.en by omega)] at wv
                  obtain ⟨b, q1, q2⟩ := m_before hX hA5.1.1 hA5.1.2.2.1 (show i < m by omega) h2 wv
                  rw [q1, gbv_s]
                  simp only [gz_0]
                  cases b
                  · rw [if_pos rfl]
                    exact s194 A3 (nI (o i)) (best_no h3 (by omega)) q2 (by omega)
                  · rw [if_neg (by decide)]
                    exact s194 A3 A2 (best_no h3 (by omega)) q2 (by omega)
                · rw [if_neg ce]
                  rw [if_pos (show gDb X.f X.cn X.ld X.nn (X.Td day) (X.u (X.Td day)) (o i) p < X.en by omega)] at wv
                  obtain ⟨b, q1, q2⟩ := m_before hX hA5.1.1 hA5.1.2.2.1 (show i < m by omega) h3 wv
                  rw [q1, gbv_s]
                  simp only [gz_0]
                  cases b
                  · rw [if_pos rfl]
                    exact s194 (nI (o i)) A2 q2 (best_no h2 (by omega)) (by omega)
                  · rw [if_neg (by decide)]
                    exact s194 A3 A2 q2 (best_no h2 (by omega)) (by omega)
          · rw [if_neg (by decide)]
            exact skip S3 e3 (by rw [wv, htk]; simp)
        · rw [if_neg (by decide)]
          exact skip S3 e3 (by rw [wv, hov]; simp)
      · rw [if_neg (by decide)]
        exact skip S2 h0 (by rw [wv, hu]; simp)
  · rw [if_neg (by decide), if_pos rfl]
    exact ⟨S1, -1, rfl, s1, e60, by rw [if_pos rfl]⟩
end

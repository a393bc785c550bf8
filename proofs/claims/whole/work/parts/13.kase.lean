/-! a cell's whole contents replaced -/
def gc (S : GS) (k : Nat) (F : Nat → Int32) : GS := (fun a => if a = k then F else S.1 a, S.2)
theorem gc_r {S : GS} {k : Nat} {F : Nat → Int32} (a : Nat) : (gc S k F).1 a = if a = k then F else S.1 a := rfl
theorem gc_q {S : GS} {k : Nat} {F : Nat → Int32} : (gc S k F).2 = S.2 := rfl
theorem gc_self (S : GS) (k : Nat) : gc S k (S.1 k) = S := by
  obtain ⟨f, g⟩ := S
  unfold gc
  congr 1
  funext a
  by_cases h : a = k
  · simp [h]
  · simp [h]
theorem gsi_gc (S : GS) (k j : Nat) (x : Int32) : gsi S k j x = gc S k (upd (S.1 k) j x) := by
  unfold gsi gc
  congr 1
  funext a b
  by_cases h : a = k
  · subst h; by_cases h2 : b = j <;> simp [upd, h2]
  · simp [h]
theorem gsi_gc2 (S : GS) (k j : Nat) (F : Nat → Int32) (x : Int32) : gsi (gc S k F) k j x = gc S k (upd F j x) := by
  rw [gsi_gc]
  unfold gc
  congr 1
  funext a
  by_cases h : a = k
  · simp [h]
  · simp [h]
theorem gc_gc (S : GS) (k : Nat) (F G : Nat → Int32) : gc (gc S k F) k G = gc S k G := by
  unfold gc
  congr 1
  funext a
  by_cases h : a = k
  · simp [h]
  · simp [h]
theorem gc_comm (S : GS) {k l : Nat} (h : k ≠ l) (F G : Nat → Int32) : gc (gc S k F) l G = gc (gc S l G) k F := by
  unfold gc
  congr 1
  funext a
  by_cases h1 : a = k
  · have : a ≠ l := by omega
    simp [h1, h]
  · simp [h1]
theorem gc_ext {S : GS} {k : Nat} {F G : Nat → Int32} (h : F = G) : gc S k F = gc S k G := by rw [h]
theorem ins_loop {S : GS} {a2 : Int32} {nk : Nat} (hnk : nk < 32) (hO : ∀ a, a < nk → gib (S.1 13 a) 32 = true) :
    ∀ (pl : Nat) (F : Nat → Int32), pl ≤ nk → (∀ i, i < pl → F i = S.1 13 i) → (∀ i, pl < i → i ≤ nk → F i = S.1 13 (i - 1)) → (∀ j, pl ≤ j → j < nk → a2 < S.1 9 (S.1 13 j).toNatClampNeg) → ∀ n, pl < n →
    ∃ (P : Nat) (F' : Nat → Int32), P ≤ pl ∧ fX0_add_69 n (gc S 13 F) a2 (nI pl) = fX0_add_114 (gc S 13 F') (nI P) ∧ (∀ i, i < P → F' i = S.1 13 i) ∧ (∀ i, P < i → i ≤ nk → F' i = S.1 13 (i - 1)) ∧ (∀ j, P ≤ j → j < nk → a2 < S.1 9 (S.1 13 j).toNatClampNeg) ∧ (P = 0 ∨ S.1 9 (S.1 13 (P - 1)).toNatClampNeg ≤ a2) := by
  intro pl
  induction pl with
  | zero =>
    intro F _ h1 h2 h3 n hn
    obtain ⟨n, rfl⟩ := Nat.exists_eq_add_of_lt hn
    refine ⟨0, F, Nat.le_refl _, ?_, h1, h2, h3, Or.inl rfl⟩
    rw [show 0 + n + 1 = n + 1 from by omega, fX0_add_69, if_pos (by decide)]
  | succ pl ih =>
    intro F hp h1 h2 h3 n hn
    obtain ⟨n, rfl⟩ := Nat.exists_eq_add_of_lt hn
    rw [show pl + 1 + n + 1 = (pl + 1 + n) + 1 from rfl, fX0_add_69]
    have c0 : ¬ nI (pl + 1) ≤ 0 := nI_nle (by omega) (by omega)
    have e1 : nI (pl + 1) - (1 : Int32) = nI pl := nI_m1 pl
    have e2 : (nI pl).toNatClampNeg = pl := nI_clamp (by omega)
    have e3 : (nI (pl + 1)).toNatClampNeg = pl + 1 := nI_clamp (by omega)
    have e4 : nI (pl + 1) + (-1 : Int32) = nI pl := pk_m1 pl
    have g1 : gib (nI pl) 32 = true := gib_nI (by omega) (by decide)
    have g2 : gib (nI (pl + 1)) 32 = true := gib_nI (by omega) (by decide)
    have g3 : gib (S.1 13 pl) 32 = true := hO pl (by omega)
    have hF : F pl = S.1 13 pl := h1 pl (by omega)
    rw [if_neg c0]
    simp only [e1, e2, e3, e4, g1, g2, gc_r, glet_s, hF, g3, if_true]
    simp only [if_neg (show ¬ (9 : Nat) = 13 by decide)]
    by_cases c1 : S.1 9 (S.1 13 pl).toNatClampNeg ≤ a2
    · refine ⟨pl + 1, F, Nat.le_refl _, ?_, h1, h2, h3, Or.inr (by simpa using c1)⟩
      rw [if_pos c1]
    · rw [if_neg c1, gsi_gc2]
      have z1 : ∀ i, pl < i → i ≤ nk → upd F (pl + 1) (S.1 13 pl) i = S.1 13 (i - 1) := by
        intro i hi hi2
        by_cases hi3 : i = pl + 1
        · subst hi3; rw [pk_us]; simp
        · rw [pk_un hi3]; exact h2 i (by omega) hi2
      have z2 : ∀ j, pl ≤ j → j < nk → a2 < S.1 9 (S.1 13 j).toNatClampNeg := by
        intro j hj hj2
        by_cases hj3 : j = pl
        · subst hj3; exact fa_of_nle c1
        · exact h3 j (by omega) hj2
      obtain ⟨P, F', q1, q2, q3⟩ := ih (upd F (pl + 1) (S.1 13 pl)) (by omega) (fun i hi => by rw [pk_un (by omega)]; exact h1 i (by omega)) z1 z2 (pl + 1 + n) (by omega)
      exact ⟨P, F', by omega, q2, q3⟩
theorem FU_gt {n : Nat} (h : n < 5000) : n < FU := by unfold FU; omega
/-- the cases' cells behind a new one -/
def XK (S : GS) (nk : Nat) (a1 a2 a3 a4 a5 : Int32) : GS := gsi (gsi (gsi (gsi (gsi S 8 nk a1) 9 nk a2) 10 nk a3) 11 nk a4) 12 nk a5
theorem x_kadd {S : GS} {nk : Nat} (h : S.1 7 0 = nI nk) (hnk : nk < 32) (hO : ∀ a, a < nk → gib (S.1 13 a) nk = true) (a1 a2 a3 a4 a5 : Int32) :
    ∃ (P : Nat) (F' : Nat → Int32), P ≤ nk ∧ fX0_add S a1 a2 a3 a4 a5 = some (nI nk, gsi (gc (XK S nk a1 a2 a3 a4 a5) 13 (upd F' P (nI nk))) 7 0 (nI (nk + 1))) ∧ (∀ i, i < P → F' i = S.1 13 i) ∧ (∀ i, P < i → i ≤ nk → F' i = S.1 13 (i - 1)) ∧ (∀ j, P ≤ j → j < nk → a2 < S.1 9 (S.1 13 j).toNatClampNeg) ∧ (P = 0 ∨ S.1 9 (S.1 13 (P - 1)).toNatClampNeg ≤ a2) := by
  have e6 : nI nk < (32 : Int32) := by show nI nk < nI 32; rw [nI_ltI (by omega) (by decide)]; omega
  have e8 : gib (nI nk) 32 = true := gib_nI (by omega) (by decide)
  have e9 : (nI nk).toNatClampNeg = nk := nI_clamp (by omega)
  have e13 : (XK S nk a1 a2 a3 a4 a5).1 13 = S.1 13 := by funext b; simp [XK, gsi]
  have e9' : ∀ j, j ≠ nk → (XK S nk a1 a2 a3 a4 a5).1 9 j = S.1 9 j := fun j hj => by simp [XK, gsi, hj]
  have eO : ∀ a, a < nk → (S.1 13 a).toNatClampNeg ≠ nk := fun a ha => by have := (gib_c (hO a ha) (by omega)).1; omega
  have h1 : fX0_add S a1 a2 a3 a4 a5 = fX0_add_69 FU (XK S nk a1 a2 a3 a4 a5) a2 (nI nk) := by
    simp [fX0_add, h, e6, e8, e9, glet, gsi_r, XK]
  obtain ⟨P, F', q1, q2, q3, q4, q5, q6⟩ := ins_loop (S := XK S nk a1 a2 a3 a4 a5) (a2 := a2) hnk (fun a ha => by rw [e13]; exact gib_ge (hO a ha) (by omega)) nk (S.1 13) (Nat.le_refl _) (fun i _ => by rw [e13]) (fun i hi hi2 => by omega) (fun j hj hj2 => by omega) FU (FU_gt (by omega))
  rw [e13] at q3 q4 q5 q6
  refine ⟨P, F', q1, ?_, q3, q4, fun j hj hj2 => ?_, ?_⟩
  · have e : gc (XK S nk a1 a2 a3 a4 a5) 13 (S.1 13) = XK S nk a1 a2 a3 a4 a5 := by rw [← e13, gc_self]
    rw [e] at q2
    rw [h1, q2]
    have g : gib (nI P) 32 = true := gib_nI (by omega) (by decide)
    have eP : (nI P).toNatClampNeg = P := nI_clamp (by omega)
    have e7 : (gc (XK S nk a1 a2 a3 a4 a5) 13 F').1 7 0 = nI nk := by simp [gc_r, XK, gsi, h]
    simp only [fX0_add_114, g, eP, e7, glet_s, if_true, gsi_gc2]
    have e7b : (gc (XK S nk a1 a2 a3 a4 a5) 13 (upd F' P (nI nk))).1 7 0 = nI nk := by simp [gc_r, XK, gsi, h]
    simp [e7b, nI_1, gsi_r, nI_m1]
  · have := q5 j hj hj2
    rw [e9' _ (eO j hj2)] at this
    exact this
  · rcases q6 with q | q
    · exact Or.inl q
    · by_cases hP : P = 0
      · exact Or.inl hP
      · rw [e9' _ (eO _ (by omega))] at q
        exact Or.inr q
def MK (S : GS) (nk : Nat) (a1 a2 a3 a4 a5 : Int32) : GS := gsi (gsi (gsi (gsi (gsi (gsi S 66 nk a1) 67 nk a2) 68 nk a3) 69 nk a4) 70 nk a5) 54 35 (nI (nk + 1))
/-- the order behind an insertion -/
theorem ins_sorted {f f' : Nat → Nat → Int32} {nk P : Nat} {a2 : Int32} (hnk : nk < 32) (hP : P ≤ nk) (hO : ∀ a, a < nk → gib (f 13 a) nk = true) (hs : ∀ a b, a < b → b < nk → gLat f (gOi f b) (gOi f a))
    (h9 : ∀ i, i ≠ nk → f' 9 i = f 9 i) (h9n : f' 9 nk = a2) (h1 : ∀ i, i < P → f' 13 i = f 13 i) (h2 : f' 13 P = nI nk) (h3 : ∀ i, P < i → i ≤ nk → f' 13 i = f 13 (i - 1))
    (hb : ∀ j, P ≤ j → j < nk → a2 < f 9 (f 13 j).toNatClampNeg) (ha : P = 0 ∨ f 9 (f 13 (P - 1)).toNatClampNeg ≤ a2) :
    (∀ a, a < nk + 1 → gib (f' 13 a) (nk + 1) = true) ∧ ∀ a b, a < b → b < nk + 1 → gLat f' (gOi f' b) (gOi f' a) := by
  have lt : ∀ a, a < nk → (f 13 a).toNatClampNeg < nk := fun a h => (gib_c (hO a h) (by omega)).1
  have en : (nI nk).toNatClampNeg = nk := nI_clamp (by omega)
  have low : ∀ a, a < P → f 9 (f 13 a).toNatClampNeg ≤ a2 := by
    intro a hP2
    rcases ha with z | z
    · omega
    · by_cases hq : a = P - 1
      · rw [hq]; exact z
      · rcases hs a (P - 1) (by omega) (by omega) with w | w
        · exact (fa_of_lt (fa_trans w z)).1
        · unfold gOi at w; rw [w.1]; exact z
  have mv : ∀ i j, i ≠ nk → j ≠ nk → gLat f i j → gLat f' i j := by
    intro i j hi hj h
    unfold gLat at h ⊢
    rw [h9 i hi, h9 j hj]
    exact h
  refine ⟨fun a ha2 => ?_, fun a b hab hb2 => ?_⟩
  · rcases Nat.lt_trichotomy a P with q | q | q
    · rw [h1 a q]; exact gib_ge (hO a (by omega)) (by omega)
    · rw [q, h2]; exact gib_nI (by omega) (by omega)
    · rw [h3 a q (by omega)]; exact gib_ge (hO (a - 1) (by omega)) (by omega)
  · unfold gOi
    rcases Nat.lt_trichotomy b P with q | q | q
    · rw [h1 a (by omega), h1 b q]
      exact mv _ _ (by have := lt b (by omega); omega) (by have := lt a (by omega); omega) (hs a b hab (by omega))
    · rw [h1 a (by omega), q, h2, en]
      have l1 := lt a (by omega)
      unfold gLat
      rw [h9n, h9 _ (by omega)]
      rcases fa_three (f 9 (f 13 a).toNatClampNeg) a2 with w | w | w
      · exact Or.inl w
      · exact Or.inr ⟨w, l1⟩
      · exact absurd (low a (by omega)) (fa_of_lt w).2.1
    · rw [h3 b q (by omega)]
      have lb := lt (b - 1) (by omega)
      rcases Nat.lt_trichotomy a P with w | w | w
      · rw [h1 a w]
        exact mv _ _ (by omega) (by have := lt a (by omega); omega) (hs a (b - 1) (by omega) (by omega))
      · rw [w, h2, en]
        unfold gLat
        rw [h9n, h9 _ (by omega)]
        exact Or.inl (hb (b - 1) (by omega) (by omega))
      · rw [h3 a w (by omega)]
        exact mv _ _ (by omega) (by have := lt (a - 1) (by omega); omega) (hs (a - 1) (b - 1) (by omega) (by omega))
theorem call_kase {S : GS} (h : IV S) (a1 a2 a3 a4 : Int32) : Both S (fun S => fX10_kase S a1 a2 a3 a4) (fun S => fX11_kase S a1 a2 a3 a4) := by
  obtain ⟨td, nt, nc, np, nk, nn, ht, hc, hp, hk, hn, hr, hf⟩ := id h
  have t3 := ht.2.2.1
  obtain ⟨p1, p2, p3, p4⟩ := id hc
  obtain ⟨k1, k2, k3, k4, k5, k6⟩ := id hk
  have hno : fX10_kase S a1 a2 a3 a4 = some (-1, S) → fX11_kase S a1 a2 a3 a4 = some (-1, gsi S 54 0 0) → Both S (fun S => fX10_kase S a1 a2 a3 a4) (fun S => fX11_kase S a1 a2 a3 a4) := fun h1 h2 => ⟨-1, S, _, h1, h2, IV_thr h 0⟩
  have mc := fun (S1 : GS) (hS1 : ∀ k j, 54 ≤ k → S1.1 k j = S.1 k j) (a : Int32) => m_isCourt (S := gsi S1 54 0 0) (a := a) (n := nc) (by simp [gsi, hS1, p2]) (by omega)
  have xc := fun (a : Int32) => x_isCourt (S := S) (a := a) p1 (by omega)
  have rf : ∀ k j, 54 ≤ k → S.1 k j = S.1 k j := fun _ _ _ => rfl
  cases c1 : gib a1 nc
  · exact hno (by simp [fX10_kase, xc, c1, gz, gbv]) (by simp [fX11_kase, glet, mc S rf, c1, gz, gbv])
  by_cases c2 : a2 < 0
  · exact hno (by simp [fX10_kase, xc, c1, gz, gbv, c2]) (by simp [fX11_kase, glet, mc S rf, c1, gz, gbv, c2])
  by_cases c3 : nI td < a2
  · exact hno (by simp [fX10_kase, xc, c1, gz, gbv, c2, ht.1, c3]) (by simp [fX11_kase, glet, mc S rf, c1, gz, gbv, c2, gsi_r, ht.2.1, c3])
  by_cases c4 : a3 < 1
  · exact hno (by simp [fX10_kase, xc, c1, gz, gbv, c2, ht.1, c3, c4]) (by simp [fX11_kase, glet, mc S rf, c1, gz, gbv, c2, gsi_r, ht.2.1, c3, c4])
  by_cases c5 : (3 : Int32) < a3
  · exact hno (by simp [fX10_kase, xc, c1, gz, gbv, c2, ht.1, c3, c4, c5]) (by simp [fX11_kase, glet, mc S rf, c1, gz, gbv, c2, gsi_r, ht.2.1, c3, c4, c5])
  cases c6 : gib a4 1024
  · exact hno (by simp [fX10_kase, xc, c1, gz, gbv, c2, ht.1, c3, c4, c5, x_areFacts, c6]) (by simp [fX11_kase, glet, mc S rf, c1, gz, gbv, c2, gsi_r, ht.2.1, c3, c4, c5, m_isFacts, c6])
  by_cases c7 : nk = 32
  · refine hno ?_ ?_
    · have e6 : ¬ nI nk < (32 : Int32) := by subst c7; decide
      simp [fX10_kase, fX0_add, xc, c1, gz, gbv, gbd, c2, ht.1, c3, c4, c5, x_areFacts, c6, k1, e6]
    · have e7 : nI nk = (32 : Int32) := by subst c7; rfl
      simp [fX11_kase, glet, mc S rf, c1, gz, gbv, c2, gsi_r, ht.2.1, c3, c4, c5, m_isFacts, c6, k2, e7]
  have hnk : nk < 32 := by omega
  obtain ⟨P, F', q1, q2, q3, q4, q5, q6⟩ := x_kadd k1 hnk k5 a1 a2 a3 a4 (nI td)
  have e7 : ¬ nI nk = (32 : Int32) := by show ¬ nI nk = nI 32; rw [nI_eq (by omega) (by decide)]; exact c7
  have e8 : gib (nI nk) 32 = true := gib_nI (by omega) (by decide)
  have e9 : (nI nk).toNatClampNeg = nk := nI_clamp (by omega)
  obtain ⟨d, hd, rfl⟩ := nI_of c2
  have hdt : d ≤ td := by
    rw [nI_ltI (by omega) hd] at c3
    omega
  obtain ⟨jd, hjd, rfl⟩ := nI_of (x := a3) (fun q => c4 (fa_trans q (by decide)))
  have j1 : ¬ nI jd < nI 1 := c4
  have j3 : ¬ nI 3 < nI jd := c5
  rw [nI_ltI hjd (by decide)] at j1
  rw [nI_ltI (by decide) hjd] at j3
  refine ⟨nI nk, gsi (gc (XK S nk a1 (nI d) (nI jd) a4 (nI td)) 13 (upd F' P (nI nk))) 7 0 (nI (nk + 1)), MK (gsi (gsi (gc (XK S nk a1 (nI d) (nI jd) a4 (nI td)) 13 (upd F' P (nI nk))) 7 0 (nI (nk + 1))) 54 0 0) nk a1 (nI d) (nI jd) a4 (nI td), ?_, ?_, ?_⟩
  · simp [fX10_kase, xc, c1, gz, gbv, gbd, c2, ht.1, c3, c4, c5, x_areFacts, c6, q2]
  · have hS1 : ∀ k' j, 54 ≤ k' → (gsi (gc (XK S nk a1 (nI d) (nI jd) a4 (nI td)) 13 (upd F' P (nI nk))) 7 0 (nI (nk + 1))).1 k' j = S.1 k' j := by
      intro k' j hk'
      have : k' ≠ 7 ∧ k' ≠ 8 ∧ k' ≠ 9 ∧ k' ≠ 10 ∧ k' ≠ 11 ∧ k' ≠ 12 ∧ k' ≠ 13 := by omega
      simp [gsi_r, gc_r, XK, this]
    generalize gsi (gc (XK S nk a1 (nI d) (nI jd) a4 (nI td)) 13 (upd F' P (nI nk))) 7 0 (nI (nk + 1)) = S1 at hS1 ⊢
    simp [fX11_kase, glet, mc S1 hS1, c1, gz, gbv, c2, gsi_r, hS1, ht.2.1, c3, c4, c5, m_isFacts, c6, k2, e7, e8, e9, nI_1, nI_m1, MK]
  · refine ⟨td, nt, nc, np, nk + 1, nn, ?_, ?_, ?_, ?_, ?_, ?_, ?_⟩
    · unfold IVt at ht ⊢; simpa [MK, XK, gsi_r, gc_r] using ht
    · unfold IVc at hc ⊢; simpa [MK, XK, gsi_r, gc_r] using hc
    · unfold IVp at hp ⊢; simpa [MK, XK, gsi_r, gc_r] using hp
    · refine ⟨by simp [MK, XK, gsi_r, gc_r], by simp [MK, XK, gsi_r, gc_r], by omega, fun i hi => ?_, ?_⟩
      · by_cases hin : i = nk
        · subst hin
          have z1 : ¬ nI jd = 0 := nI_ne0 (by omega) hjd
          simp [MK, XK, gsi_r, gc_r, c1, c6, gib_nI (show d < td + 1 by omega) (show td + 1 < 2 ^ 31 by omega), gib_nI (show jd < 4 by omega) (by decide), z1, gib_nI (show td < td + 1 by omega) (show td + 1 < 2 ^ 31 by omega)]
        · have := k4 i (by omega)
          simpa [MK, XK, gsi_r, gc_r, hin] using this
      · refine ins_sorted (f := S.1) (a2 := nI d) (P := P) hnk q1 k5 k6 (fun i hi => by simp [MK, XK, gsi_r, gc_r, hi]) (by simp [MK, XK, gsi_r, gc_r]) (fun i hi => ?_) ?_ (fun i hi hi2 => ?_) q5 q6
        · have : i ≠ P := by omega
          simp [MK, XK, gsi_r, gc_r, upd, this, q3 i hi]
        · simp [MK, XK, gsi_r, gc_r, upd]
        · have : i ≠ P := by omega
          simp [MK, XK, gsi_r, gc_r, upd, this, q4 i hi hi2]
    · obtain ⟨n1, n2, n3, n4⟩ := id hn
      refine ⟨by simpa [MK, XK, gsi_r, gc_r] using n1, by simpa [MK, XK, gsi_r, gc_r] using n2, n3, fun i hi => ?_⟩
      have hold := n4 i hi
      have lo : ∀ x : Int32, gib x nk = true → x.toNatClampNeg ≠ nk := fun x hx => by have := (gib_c hx (by omega)).1; omega
      obtain ⟨w1, w2, w3, w4, w5, w6, w7, w8, w9⟩ := hold
      unfold IVn1 gLat
      have e9' : ∀ j, j ≠ nk → (MK (gsi (gsi (gc (XK S nk a1 (nI d) (nI jd) a4 (nI td)) 13 (upd F' P (nI nk))) 7 0 (nI (nk + 1))) 54 0 0) nk a1 (nI d) (nI jd) a4 (nI td)).1 9 j = S.1 9 j := fun j hj => by simp [MK, XK, gsi_r, gc_r, hj]
      have e12 : ∀ j, j ≠ nk → (MK (gsi (gsi (gc (XK S nk a1 (nI d) (nI jd) a4 (nI td)) 13 (upd F' P (nI nk))) 7 0 (nI (nk + 1))) 54 0 0) nk a1 (nI d) (nI jd) a4 (nI td)).1 12 j = S.1 12 j := fun j hj => by simp [MK, XK, gsi_r, gc_r, hj]
      have eq : ∀ k, k = 15 ∨ k = 16 ∨ k = 17 ∨ k = 18 ∨ k = 19 ∨ k = 20 ∨ k = 71 ∨ k = 72 ∨ k = 73 ∨ k = 74 ∨ k = 75 ∨ k = 76 → (MK (gsi (gsi (gc (XK S nk a1 (nI d) (nI jd) a4 (nI td)) 13 (upd F' P (nI nk))) 7 0 (nI (nk + 1))) 54 0 0) nk a1 (nI d) (nI jd) a4 (nI td)).1 k i = S.1 k i := by
        intro k hk
        rcases hk with rfl | rfl | rfl | rfl | rfl | rfl | rfl | rfl | rfl | rfl | rfl | rfl <;> simp [MK, XK, gsi_r, gc_r]
      simp only [eq 15 (by simp), eq 16 (by simp), eq 17 (by simp), eq 18 (by simp), eq 19 (by simp), eq 20 (by simp), eq 71 (by simp), eq 72 (by simp), eq 73 (by simp), eq 74 (by simp), eq 75 (by simp), eq 76 (by simp)]
      refine ⟨w1, w2, w3, w4, fun z => ?_, fun z z2 => ?_, w7, w8, w9⟩
      · obtain ⟨v1, v2, v3, v4, v5, v6, v7, v8, v9⟩ := w5 z
        exact ⟨v1, v2, v3, v4, gib_ge v5 (by omega), v6, v7, v8, by rw [e12 _ (lo _ v5)]; exact v9⟩
      · obtain ⟨v1, v2, v3, v4, v5, v6, v7, v8⟩ := w6 z z2
        refine ⟨v1, v2, gib_ge v3 (by omega), gib_ge v4 (by omega), ?_, by rw [e12 _ (lo _ v3)]; exact v6, by rw [e12 _ (lo _ v4)]; exact v7, v8⟩
        rw [e9' _ (lo _ v3), e9' _ (lo _ v4)]
        exact v5
    · obtain ⟨hr0, hr1⟩ := hr
      refine ⟨hr0, ?_⟩
      unfold IVl at hr1 ⊢
      show _ ∧ _
      have q0 : (MK (gsi (gsi (gc (XK S nk a1 (nI d) (nI jd) a4 (nI td)) 13 (upd F' P (nI nk))) 7 0 (nI (nk + 1))) 54 0 0) nk a1 (nI d) (nI jd) a4 (nI td)).2 = S.2 := rfl
      rw [q0]
      rcases hr0 with ⟨z, -⟩ | ⟨z, -⟩ <;> rw [z] at hr1 ⊢ <;> simpa [MK, XK, gsi, gc] using hr1
    · unfold IVf at hf ⊢; simpa [MK, XK, gsi_r, gc_r] using hf

theorem gsi_r {S : GS} {k j : Nat} {x : Int32} (a b : Nat) : (gsi S k j x).1 a b = if a = k ∧ b = j then x else S.1 a b := rfl
/-! calls that tell notes -/
def XN (S : GS) (nn : Nat) (k t a o p e : Int32) : GS := gsi (gsi (gsi (gsi (gsi (gsi (gsi S 15 nn k) 16 nn t) 17 nn a) 18 nn o) 19 nn p) 20 nn e) 14 0 (nI (nn + 1))
def MN (S : GS) (nn : Nat) (k t a b c d : Int32) : GS := gsi (gsi (gsi (gsi (gsi (gsi (gsi S 71 nn k) 72 nn t) 73 nn a) 74 nn b) 75 nn c) 76 nn d) 54 41 (nI (nn + 1))
theorem x_add {S : GS} {nn : Nat} (h : S.1 14 0 = nI nn) (hn : nn < 120) (k t a o p e : Int32) : fX4_add S k t a o p e = some (nI nn, XN S nn k t a o p e) := by
  have e6 : nI nn < (120 : Int32) := by show nI nn < nI 120; rw [nI_ltI (by omega) (by decide)]; omega
  have e8 : gib (nI nn) 120 = true := gib_nI (by omega) (by decide)
  have e9 : (nI nn).toNatClampNeg = nn := nI_clamp (by omega)
  simp [fX4_add, h, e6, e8, e9, glet, gsi, nI_1, nI_m1, XN]
theorem x_add_no {S : GS} (h : S.1 14 0 = nI 120) (k t a o p e : Int32) : fX4_add S k t a o p e = some (-1, S) := by
  have e6 : ¬ nI 120 < (120 : Int32) := by decide
  simp [fX4_add, h, e6]
theorem m_add {S : GS} {nn : Nat} (h : S.1 54 41 = nI nn) (hn : nn < 120) (k a b c d : Int32) : fX11_note S k a b c d = some (nI nn, MN S nn k (S.1 54 29) a b c d) := by
  have e8 : gib (nI nn) 120 = true := gib_nI (by omega) (by decide)
  have e9 : (nI nn).toNatClampNeg = nn := nI_clamp (by omega)
  simp [fX11_note, h, e8, e9, glet, gsi, nI_1, nI_m1, MN]
theorem MN_low {S : GS} {nn i : Nat} {kk t a o p e a' b' c' d' : Int32} (hi : i ≠ nn) (k : Nat) (hk : k ≠ 14) (hk2 : k ≠ 54) : (MN (gsi (XN S nn kk t a o p e) 54 0 0) nn kk t a' b' c' d').1 k i = S.1 k i := by
  simp [MN, XN, gsi, hi, hk, hk2]
theorem both_note {S : GS} {td nt nc np nk nn : Nat} (ht : IVt S.1 td nt) (hc : IVc S.1 nc) (hp : IVp S.1 np) (hk : IVk S.1 td nc nk) (hn : IVn S.1 td np nk nn) (hr : IVr S.1 (S.2.2 0) (S.2.2 1)) (hf : IVf S.1)
    {k a o p e a' b' c' d' : Int32} (hnew : nn < 120 → IVn1 (MN (gsi (XN S nn k (nI td) a o p e) 54 0 0) nn k (nI td) a' b' c' d').1 td np nk nn) {x m : GS → Option (Int32 × GS)}
    (hx : x S = gbd (fX4_add S k (S.1 0 2) a o p e) fun r S => some (r, S))
    (hm : ∀ S1 : GS, (∀ k j, 54 ≤ k → S1.1 k j = S.1 k j) → m S1 = if nn = 120 then some (-1, gsi S1 54 0 0) else gbd (fX11_note (gsi S1 54 0 0) k a' b' c' d') fun r S => some (r, S)) : Both S x m := by
  obtain ⟨n1, n2, n3, n4⟩ := id hn
  by_cases c : nn = 120
  · refine ⟨-1, S, gsi S 54 0 0, ?_, ?_, IV_thr ⟨td, nt, nc, np, nk, nn, ht, hc, hp, hk, hn, hr, hf⟩ 0⟩
    · rw [hx, x_add_no (by rw [n1, c])]; rfl
    · rw [hm S (fun _ _ _ => rfl), if_pos c]
  have hnn : nn < 120 := by omega
  refine ⟨nI nn, XN S nn k (nI td) a o p e, MN (gsi (XN S nn k (nI td) a o p e) 54 0 0) nn k (nI td) a' b' c' d', ?_, ?_, ?_⟩
  · rw [hx, ht.1, x_add n1 hnn]; rfl
  · have hS1 : ∀ k' j, 54 ≤ k' → (XN S nn k (nI td) a o p e).1 k' j = S.1 k' j := by
      intro k' j hk'
      have : k' ≠ 14 ∧ k' ≠ 15 ∧ k' ≠ 16 ∧ k' ≠ 17 ∧ k' ≠ 18 ∧ k' ≠ 19 ∧ k' ≠ 20 := by omega
      simp [XN, gsi, this]
    rw [hm _ hS1, if_neg c, m_add (nn := nn) (by simp [gsi, hS1, n2]) hnn]
    have : (gsi (XN S nn k (nI td) a o p e) 54 0 0).1 54 29 = nI td := by simp [gsi, hS1, ht.2.1]
    rw [this]; rfl
  · have hnw := hnew hnn
    refine ⟨td, nt, nc, np, nk, nn + 1, ?_, ?_, ?_, ?_, ?_, ?_, ?_⟩
    · unfold IVt at ht ⊢; simpa [gsi, MN, XN] using ht
    · unfold IVc at hc ⊢; simpa [gsi, MN, XN] using hc
    · unfold IVp at hp ⊢; simpa [gsi, MN, XN] using hp
    · unfold IVk gLat gOi at hk ⊢; simpa [gsi, MN, XN] using hk
    · refine ⟨by simp [gsi, MN, XN], by simp [gsi, MN, XN], by omega, fun i hi => ?_⟩
      by_cases hin : i = nn
      · subst hin; exact hnw
      · have hold := n4 i (by omega)
        have e9 : ∀ j, (MN (gsi (XN S nn k (nI td) a o p e) 54 0 0) nn k (nI td) a' b' c' d').1 9 j = S.1 9 j := fun j => by simp [MN, XN, gsi]
        have e12 : ∀ j, (MN (gsi (XN S nn k (nI td) a o p e) 54 0 0) nn k (nI td) a' b' c' d').1 12 j = S.1 12 j := fun j => by simp [MN, XN, gsi]
        unfold IVn1 gLat at hold ⊢
        simp only [MN_low hin 15 (by decide) (by decide), MN_low hin 16 (by decide) (by decide), MN_low hin 17 (by decide) (by decide), MN_low hin 18 (by decide) (by decide), MN_low hin 19 (by decide) (by decide), MN_low hin 20 (by decide) (by decide), MN_low hin 71 (by decide) (by decide), MN_low hin 72 (by decide) (by decide), MN_low hin 73 (by decide) (by decide), MN_low hin 74 (by decide) (by decide), MN_low hin 75 (by decide) (by decide), MN_low hin 76 (by decide) (by decide), e9, e12]
        exact hold
    · obtain ⟨hr0, hr1⟩ := hr
      refine ⟨hr0, ?_⟩
      unfold IVl at hr1 ⊢
      show _ ∧ _
      dsimp only [gsi, MN, XN]
      rcases hr0 with ⟨z, -⟩ | ⟨z, -⟩ <;> rw [z] at hr1 ⊢ <;> simpa using hr1
    · unfold IVf at hf ⊢; simpa [gsi, MN, XN] using hf
theorem told_le {f : Nat → Nat → Int32} {td nc nk : Nat} (ht : td ≤ 9999) (hk : IVk f td nc nk) {i : Nat} (hi : i < nk) : f 12 i ≤ nI td := by
  obtain ⟨-, -, -, h, -⟩ := hk
  obtain ⟨j, hj, e⟩ := gib_ex (h i hi).2.2.2.2.2.2.2.2.2.2 (by omega)
  rw [e, nI_leI (by omega) (by omega)]
  omega
theorem eq120 {nn : Nat} (h : nn ≤ 120) : (nI nn = (120 : Int32)) = (nn = 120) := by
  show (nI nn = nI 120) = _
  rw [nI_eq (by omega) (by decide)]
theorem call_holds {S : GS} (h : IV S) (a1 a2 a3 a4 a5 : Int32) : Both S (fun S => fX10_holds S a1 a2 a3 a4 a5) (fun S => fX11_holds S a1 a2 a3 a4 a5) := by
  obtain ⟨td, nt, nc, np, nk, nn, ht, hc, hp, hk, hn, hr, hf⟩ := id h
  have t3 := ht.2.2.1
  obtain ⟨p1, p2, p3, p4⟩ := id hp
  obtain ⟨k1, k2, k3, k4, k5⟩ := id hk
  obtain ⟨n1, n2, n3, n4⟩ := id hn
  have hno : fX10_holds S a1 a2 a3 a4 a5 = some (-1, S) → fX11_holds S a1 a2 a3 a4 a5 = some (-1, gsi S 54 0 0) → Both S (fun S => fX10_holds S a1 a2 a3 a4 a5) (fun S => fX11_holds S a1 a2 a3 a4 a5) := fun h1 h2 => ⟨-1, S, _, h1, h2, IV_thr h 0⟩
  have mk := fun (S1 : GS) (hS1 : ∀ k j, 54 ≤ k → S1.1 k j = S.1 k j) (a : Int32) => m_isCase (S := gsi S1 54 0 0) (a := a) (n := nk) (by simp [gsi_r, hS1, k2]) (by omega)
  have mp := fun (S1 : GS) (hS1 : ∀ k j, 54 ≤ k → S1.1 k j = S.1 k j) (a : Int32) => m_isPoint (S := gsi S1 54 0 0) (a := a) (n := np) (by simp [gsi_r, hS1, p2]) (by omega)
  have xk := fun (a : Int32) => x_isCase (S := S) (a := a) k1 (by omega)
  have xp := fun (a : Int32) => x_isPoint (S := S) (a := a) p1 (by omega)
  have rf : ∀ k j, 54 ≤ k → S.1 k j = S.1 k j := fun _ _ _ => rfl
  cases c1 : gib a1 nk
  · exact hno (by simp [fX10_holds, xk, c1, gz, gbv]) (by simp [fX11_holds, mk S rf, c1, gz, gbv, glet])
  have g32 : gib a1 32 = true := gib_ge c1 (by omega)
  obtain ⟨i1, hi1, rfl⟩ := gib_ex c1 (by omega)
  have e1 : (nI i1).toNatClampNeg = i1 := nI_clamp (by omega)
  obtain ⟨q1, q2, q3, q4, q5, q6, q7, q8, q9, q10, q11⟩ := k4 i1 hi1
  by_cases c2 : a2 < 0
  · refine hno ?_ (by simp [fX11_holds, mk S rf, c1, gz, gbv, glet, c2])
    cases gib a3 np <;> cases gib a4 1024 <;> simp_all [fX10_holds, xk, xp, x_areFacts, gz, gbv]
  by_cases c3 : ¬ a2 < S.1 10 i1
  · have c3' : S.1 10 i1 ≤ a2 := fa_of_nlt c3
    refine hno ?_ ?_
    · cases c4 : gib a3 np
      · simp [fX10_holds, xk, xp, x_areFacts, gz, gbv, c1, c4]
      cases c5 : gib a4 1024
      · simp [fX10_holds, xk, xp, x_areFacts, gz, gbv, c1, c4, c5]
      simp [fX10_holds, xk, xp, x_areFacts, gz, gbv, c1, c4, c5, c2, g32, e1, c3]
    · simp [fX11_holds, mk S rf, c1, gz, gbv, glet, c2, g32, e1, gsi_r, q3, c3']
  have c3 := Decidable.not_not.mp c3
  have c3' : ¬ S.1 10 i1 ≤ a2 := fun q => (fa_of_lt c3).2.1 q
  cases c4 : gib a3 np
  · exact hno (by simp [fX10_holds, xk, xp, gz, gbv, c1, c4]) (by simp [fX11_holds, mk S rf, mp S rf, c1, gz, gbv, glet, c2, g32, e1, gsi_r, q3, c3', c4])
  cases c5 : gib a4 1024
  · exact hno (by simp [fX10_holds, xk, xp, x_areFacts, gz, gbv, c1, c4, c5]) (by simp [fX11_holds, mk S rf, mp S rf, m_isFacts, c1, gz, gbv, glet, c2, g32, e1, gsi_r, q3, c3', c4, c5])
  have hj : gib a2 3 = true := by
    obtain ⟨j, hj, rfl⟩ := nI_of c2
    obtain ⟨w, hw, ew⟩ := gib_ex q8 (by decide)
    rw [ew, nI_ltI (by omega) (by omega)] at c3
    exact gib_nI (by omega) (by decide)
  have key : ∀ kd : Int32, kd = 0 ∨ kd = 1 → (fX10_holds S (nI i1) a2 a3 a4 a5 = fX10_holds_59 S kd (nI i1) a2 a3 a4) → (∀ S1 : GS, (∀ k j, 54 ≤ k → S1.1 k j = S.1 k j) → fX11_holds S1 (nI i1) a2 a3 a4 a5 = if nn = 120 then some (-1, gsi S1 54 0 0) else fX11_holds_65 (gsi S1 54 0 0) kd (nI i1) a2 a3 a4) → Both S (fun S => fX10_holds S (nI i1) a2 a3 a4 a5) (fun S => fX11_holds S (nI i1) a2 a3 a4 a5) := by
    intro kd hkd h1 h2
    refine both_note (k := kd) (a := nI i1) (o := a2) (p := a3) (e := a4) (a' := nI i1) (b' := a2) (c' := a3) (d' := a4) ht hc hp hk hn hr hf (fun hnn => ?_) h1 h2
    have hk9 : gib kd 9 = true := by rcases hkd with rfl | rfl <;> decide
    have hk1 : kd ≤ 1 := by rcases hkd with rfl | rfl <;> decide
    have hk2 : ¬ (1 : Int32) < kd := by rcases hkd with rfl | rfl <;> decide
    have hk3 : ¬ (4 : Int32) < kd := by rcases hkd with rfl | rfl <;> decide
    have hk4 : ¬ kd = 7 := by rcases hkd with rfl | rfl <;> decide
    have hk5 : ¬ kd = 8 := by rcases hkd with rfl | rfl <;> decide
    unfold IVn1
    simp [MN, XN, gsi, hk9, hk1, hk2, hk3, hk4, hk5, c1, hj, c4, c5, e1, told_le t3 hk hi1, gib_nI (show td < td + 1 by omega) (show td + 1 < 2 ^ 31 by omega)]
  by_cases c6 : a5 = 0
  · refine key 0 (Or.inl rfl) (by simp [fX10_holds, xk, xp, x_areFacts, gz, gbv, c1, c4, c5, c2, g32, e1, c3, c6]) (fun S1 hS1 => ?_)
    simp [fX11_holds, mk S1 hS1, mp S1 hS1, m_isFacts, c1, gz, gbv, glet, c2, g32, e1, gsi_r, hS1, q3, c3', c4, c5, n2, eq120 n3, c6]
  · refine key 1 (Or.inr rfl) (by simp [fX10_holds, xk, xp, x_areFacts, gz, gbv, c1, c4, c5, c2, g32, e1, c3, c6]) (fun S1 hS1 => ?_)
    simp [fX11_holds, mk S1 hS1, mp S1 hS1, m_isFacts, c1, gz, gbv, glet, c2, g32, e1, gsi_r, hS1, q3, c3', c4, c5, n2, eq120 n3, c6]
theorem later_x {S : GS} {i j : Nat} (hi : i < 32) (hj : j < 32) : (gLat S.1 i j → fX0_isLater S (nI i) (nI j) = some 1) ∧ (¬ gLat S.1 i j → fX0_isLater S (nI i) (nI j) = some 0) := by
  have g1 : gib (nI i) 32 = true := gib_nI hi (by decide)
  have g2 : gib (nI j) 32 = true := gib_nI hj (by decide)
  have e1 : (nI i).toNatClampNeg = i := nI_clamp (by omega)
  have e2 : (nI j).toNatClampNeg = j := nI_clamp (by omega)
  unfold gLat
  by_cases c1 : S.1 9 j < S.1 9 i
  · simp [fX0_isLater, g1, g2, e1, e2, c1]
  by_cases c2 : S.1 9 i = S.1 9 j
  · by_cases c3 : i ≤ j
    · have : nI i ≤ nI j := nI_le c3 (by omega)
      simp [fX0_isLater, g1, g2, e1, e2, c2, this]; omega
    · have : ¬ nI i ≤ nI j := nI_ge (by omega) (by omega)
      simp [fX0_isLater, g1, g2, e1, e2, c2, this]; omega
  · have c2' : ¬ S.1 9 j = S.1 9 i := fun q => c2 q.symm
    simp [fX0_isLater, g1, g2, e1, e2, c1, c2, c2']
theorem later_m {S : GS} {i j : Nat} (hi : i < 32) (hj : j < 32) {f : Nat → Nat → Int32} (h1 : S.1 67 i = f 9 i) (h2 : S.1 67 j = f 9 j) : (gLat f i j → fX11_isLater S (nI i) (nI j) = some 1) ∧ (¬ gLat f i j → fX11_isLater S (nI i) (nI j) = some 0) := by
  have g1 : gib (nI i) 32 = true := gib_nI hi (by decide)
  have g2 : gib (nI j) 32 = true := gib_nI hj (by decide)
  have e1 : (nI i).toNatClampNeg = i := nI_clamp (by omega)
  have e2 : (nI j).toNatClampNeg = j := nI_clamp (by omega)
  unfold gLat
  by_cases c1 : f 9 j < f 9 i
  · simp [fX11_isLater, g1, g2, e1, e2, h1, h2, c1]
  by_cases c2 : f 9 i = f 9 j
  · by_cases c3 : i ≤ j
    · have : nI i ≤ nI j := nI_le c3 (by omega)
      simp [fX11_isLater, g1, g2, e1, e2, h1, h2, c2, this]; omega
    · have : ¬ nI i ≤ nI j := nI_ge (by omega) (by omega)
      simp [fX11_isLater, g1, g2, e1, e2, h1, h2, c2, this]; omega
  · have c2' : ¬ f 9 j = f 9 i := fun q => c2 q.symm
    simp [fX11_isLater, g1, g2, e1, e2, h1, h2, c1, c2, c2']
theorem call_join {S : GS} (h : IV S) (a1 a2 : Int32) : Both S (fun S => fX10_join S a1 a2) (fun S => fX11_join S a1 a2) := by
  obtain ⟨td, nt, nc, np, nk, nn, ht, hc, hp, hk, hn, hr, hf⟩ := id h
  have t3 := ht.2.2.1
  obtain ⟨p1, p2, p3, p4⟩ := id hp
  obtain ⟨n1, n2, n3, n4⟩ := id hn
  have hno : fX10_join S a1 a2 = some (-1, S) → fX11_join S a1 a2 = some (-1, gsi S 54 0 0) → Both S (fun S => fX10_join S a1 a2) (fun S => fX11_join S a1 a2) := fun h1 h2 => ⟨-1, S, _, h1, h2, IV_thr h 0⟩
  have mp := fun (S1 : GS) (hS1 : ∀ k j, 54 ≤ k → S1.1 k j = S.1 k j) (a : Int32) => m_isPoint (S := gsi S1 54 0 0) (a := a) (n := np) (by simp [gsi_r, hS1, p2]) (by omega)
  have xp := fun (a : Int32) => x_isPoint (S := S) (a := a) p1 (by omega)
  have rf : ∀ k j, 54 ≤ k → S.1 k j = S.1 k j := fun _ _ _ => rfl
  cases c1 : gib a1 np
  · exact hno (by simp [fX10_join, xp, c1, gz, gbv]) (by simp [fX11_join, mp S rf, c1, gz, gbv, glet])
  cases c2 : gib a2 np
  · exact hno (by simp [fX10_join, xp, c1, c2, gz, gbv]) (by simp [fX11_join, mp S rf, c1, c2, gz, gbv, glet])
  by_cases c3 : a1 = a2
  · exact hno (by simp [fX10_join, xp, c2, gz, gbv, c3]) (by simp [fX11_join, mp S rf, c2, gz, gbv, glet, c3])
  refine both_note (k := 7) (a := -1) (o := a2) (p := a1) (e := 0) (a' := a1) (b' := a2) (c' := 0) (d' := 0) ht hc hp hk hn hr hf (fun hnn => ?_) (by simp [fX10_join, xp, c1, c2, gz, gbv, c3]) (fun S1 hS1 => ?_)
  · unfold IVn1
    have z1 : ¬ (7 : Int32) ≤ 1 := by decide
    have z2 : ¬ (7 : Int32) ≤ 4 := by decide
    have z3 : ¬ (7 : Int32) ≤ 6 := by decide
    have z4 : gib (7 : Int32) 9 = true := by decide
    simp [MN, XN, gsi, z1, z2, z3, z4, c1, c2, gib_nI (show td < td + 1 by omega) (show td + 1 < 2 ^ 31 by omega)]
  · simp [fX11_join, mp S1 hS1, c1, c2, gz, gbv, glet, c3, gsi_r, hS1, n2, eq120 n3]
theorem call_strike {S : GS} (h : IV S) (a1 : Int32) : Both S (fun S => fX10_strike S a1) (fun S => fX11_strike S a1) := by
  obtain ⟨td, nt, nc, np, nk, nn, ht, hc, hp, hk, hn, hr, hf⟩ := id h
  have t3 := ht.2.2.1
  obtain ⟨n1, n2, n3, n4⟩ := id hn
  have hno : fX10_strike S a1 = some (-1, S) → fX11_strike S a1 = some (-1, gsi S 54 0 0) → Both S (fun S => fX10_strike S a1) (fun S => fX11_strike S a1) := fun h1 h2 => ⟨-1, S, _, h1, h2, IV_thr h 0⟩
  by_cases c1 : a1 < 0
  · exact hno (by simp [fX10_strike, c1]) (by simp [fX11_strike, glet, c1])
  obtain ⟨j, hj, rfl⟩ := nI_of c1
  by_cases c2 : nn ≤ j
  · have c3 : nI nn ≤ nI j := nI_le c2 hj
    have c4 : ¬ nI j < nI nn := nI_nlt c2 hj
    exact hno (by simp [fX10_strike, c1, n1, c4]) (by simp [fX11_strike, glet, c1, gsi_r, n2, c3])
  have c3 : ¬ nI nn ≤ nI j := nI_ge (by omega) (by omega)
  have c4 : nI j < nI nn := nI_lt (by omega) (by omega)
  refine both_note (k := 8) (a := -1) (o := nI j) (p := -1) (e := 0) (a' := nI j) (b' := 0) (c' := 0) (d' := 0) ht hc hp hk hn hr hf (fun hnn => ?_) (by simp [fX10_strike, c1, n1, c4]) (fun S1 hS1 => ?_)
  · unfold IVn1
    have z1 : ¬ (8 : Int32) ≤ 1 := by decide
    have z2 : ¬ (8 : Int32) ≤ 4 := by decide
    have z3 : ¬ (8 : Int32) ≤ 6 := by decide
    have z4 : gib (8 : Int32) 9 = true := by decide
    simp [MN, XN, gsi, z1, z2, z3, z4, gib_nI (show j < nn by omega) (show nn < 2 ^ 31 by omega), gib_nI (show td < td + 1 by omega) (show td + 1 < 2 ^ 31 by omega)]
  · simp [fX11_strike, glet, c1, c3, gsi_r, hS1, n2, eq120 n3]
theorem call_statute {S : GS} (h : IV S) (a1 a2 a3 : Int32) : Both S (fun S => fX10_statute S a1 a2 a3) (fun S => fX11_statute S a1 a2 a3) := by
  obtain ⟨td, nt, nc, np, nk, nn, ht, hc, hp, hk, hn, hr, hf⟩ := id h
  have t3 := ht.2.2.1
  obtain ⟨p1, p2, p3, p4⟩ := id hp
  obtain ⟨n1, n2, n3, n4⟩ := id hn
  have hno : fX10_statute S a1 a2 a3 = some (-1, S) → fX11_statute S a1 a2 a3 = some (-1, gsi S 54 0 0) → Both S (fun S => fX10_statute S a1 a2 a3) (fun S => fX11_statute S a1 a2 a3) := fun h1 h2 => ⟨-1, S, _, h1, h2, IV_thr h 0⟩
  have mp := fun (S1 : GS) (hS1 : ∀ k j, 54 ≤ k → S1.1 k j = S.1 k j) (a : Int32) => m_isPoint (S := gsi S1 54 0 0) (a := a) (n := np) (by simp [gsi_r, hS1, p2]) (by omega)
  have xp := fun (a : Int32) => x_isPoint (S := S) (a := a) p1 (by omega)
  have rf : ∀ k j, 54 ≤ k → S.1 k j = S.1 k j := fun _ _ _ => rfl
  cases c1 : gib a1 np
  · exact hno (by simp [fX10_statute, xp, c1, gz, gbv]) (by simp [fX11_statute, mp S rf, c1, gz, gbv, glet])
  cases c2 : gib a2 10000
  · exact hno (by simp [fX10_statute, xp, x_isDay, c1, c2, gz, gbv]) (by simp [fX11_statute, mp S rf, m_isDay, c1, c2, gz, gbv, glet])
  have key : ∀ kd : Int32, kd = 5 ∨ kd = 6 → (fX10_statute S a1 a2 a3 = fX10_statute_31 S kd a1 a2) → (∀ S1 : GS, (∀ k j, 54 ≤ k → S1.1 k j = S.1 k j) → fX11_statute S1 a1 a2 a3 = if nn = 120 then some (-1, gsi S1 54 0 0) else fX11_statute_42 (gsi S1 54 0 0) kd a1 a2) → Both S (fun S => fX10_statute S a1 a2 a3) (fun S => fX11_statute S a1 a2 a3) := by
    intro kd hkd h1 h2
    refine both_note (k := kd) (a := -1) (o := -1) (p := a1) (e := a2) (a' := 0) (b' := a2) (c' := a1) (d' := 0) ht hc hp hk hn hr hf (fun hnn => ?_) h1 h2
    have hk9 : gib kd 9 = true := by rcases hkd with rfl | rfl <;> decide
    have hk1 : ¬ kd ≤ 1 := by rcases hkd with rfl | rfl <;> decide
    have hk2 : ¬ kd ≤ 4 := by rcases hkd with rfl | rfl <;> decide
    have hk4 : ¬ kd = 7 := by rcases hkd with rfl | rfl <;> decide
    have hk5 : ¬ kd = 8 := by rcases hkd with rfl | rfl <;> decide
    unfold IVn1
    simp [MN, XN, gsi, hk9, hk1, hk2, hk4, hk5, c1, c2, gib_nI (show td < td + 1 by omega) (show td + 1 < 2 ^ 31 by omega)]
  by_cases c6 : a3 = 0
  · refine key 5 (Or.inl rfl) (by simp [fX10_statute, xp, x_isDay, gz, gbv, c1, c2, c6]) (fun S1 hS1 => ?_)
    simp [fX11_statute, mp S1 hS1, m_isDay, c1, c2, gz, gbv, glet, gsi_r, hS1, n2, eq120 n3, c6]
  · refine key 6 (Or.inr rfl) (by simp [fX10_statute, xp, x_isDay, gz, gbv, c1, c2, c6]) (fun S1 hS1 => ?_)
    simp [fX11_statute, mp S1 hS1, m_isDay, c1, c2, gz, gbv, glet, gsi_r, hS1, n2, eq120 n3, c6]
theorem call_treats {S : GS} (h : IV S) (a1 a2 a3 a4 : Int32) : Both S (fun S => fX10_treats S a1 a2 a3 a4) (fun S => fX11_treats S a1 a2 a3 a4) := by
  obtain ⟨td, nt, nc, np, nk, nn, ht, hc, hp, hk, hn, hr, hf⟩ := id h
  have t3 := ht.2.2.1
  obtain ⟨p1, p2, p3, p4⟩ := id hp
  obtain ⟨k1, k2, k3, k4, k5⟩ := id hk
  obtain ⟨n1, n2, n3, n4⟩ := id hn
  have hno : fX10_treats S a1 a2 a3 a4 = some (-1, S) → fX11_treats S a1 a2 a3 a4 = some (-1, gsi S 54 0 0) → Both S (fun S => fX10_treats S a1 a2 a3 a4) (fun S => fX11_treats S a1 a2 a3 a4) := fun h1 h2 => ⟨-1, S, _, h1, h2, IV_thr h 0⟩
  have mk := fun (S1 : GS) (hS1 : ∀ k j, 54 ≤ k → S1.1 k j = S.1 k j) (a : Int32) => m_isCase (S := gsi S1 54 0 0) (a := a) (n := nk) (by simp [gsi_r, hS1, k2]) (by omega)
  have mp := fun (S1 : GS) (hS1 : ∀ k j, 54 ≤ k → S1.1 k j = S.1 k j) (a : Int32) => m_isPoint (S := gsi S1 54 0 0) (a := a) (n := np) (by simp [gsi_r, hS1, p2]) (by omega)
  have xk := fun (a : Int32) => x_isCase (S := S) (a := a) k1 (by omega)
  have xp := fun (a : Int32) => x_isPoint (S := S) (a := a) p1 (by omega)
  have rf : ∀ k j, 54 ≤ k → S.1 k j = S.1 k j := fun _ _ _ => rfl
  by_cases c1 : a1 < 2
  · exact hno (by simp [fX10_treats, c1]) (by simp [fX11_treats, glet, c1])
  by_cases c2 : (4 : Int32) < a1
  · exact hno (by simp [fX10_treats, c1, c2]) (by simp [fX11_treats, glet, c1, c2])
  cases c3 : gib a2 nk
  · exact hno (by simp [fX10_treats, c1, c2, xk, c3, gz, gbv]) (by simp [fX11_treats, glet, c1, c2, mk S rf, c3, gz, gbv])
  cases c4 : gib a3 nk
  · exact hno (by simp [fX10_treats, c1, c2, xk, c3, c4, gz, gbv]) (by simp [fX11_treats, glet, c1, c2, mk S rf, c3, c4, gz, gbv])
  obtain ⟨i, hi, rfl⟩ := gib_ex c3 (by omega)
  obtain ⟨j, hj, rfl⟩ := gib_ex c4 (by omega)
  have lx := later_x (S := S) (i := i) (j := j) (by omega) (by omega)
  have lm := fun (S1 : GS) (hS1 : ∀ k j, 54 ≤ k → S1.1 k j = S.1 k j) => later_m (S := gsi S1 54 0 0) (i := i) (j := j) (f := S.1) (by omega) (by omega) (by simp [gsi_r, hS1, (k4 i hi).2.1]) (by simp [gsi_r, hS1, (k4 j hj).2.1])
  have ei : (nI i).toNatClampNeg = i := nI_clamp (by omega)
  have ej : (nI j).toNatClampNeg = j := nI_clamp (by omega)
  by_cases c5 : ¬ gLat S.1 i j
  · exact hno (by simp [fX10_treats, c1, c2, xk, c3, c4, gz, gbv, lx.2 c5]) (by simp [fX11_treats, glet, c1, c2, mk S rf, c3, c4, gz, gbv, (lm S rf).2 c5])
  have c5 := Classical.not_not.mp c5
  have key : ∀ p : Int32, (a1 ≠ 4 → p = a4 ∧ gib a4 np = true) → (fX10_treats S a1 (nI i) (nI j) a4 = fX10_treats_78 S a1 (S.1 0 2) (nI i) (nI j) p) → (∀ S1 : GS, (∀ k j, 54 ≤ k → S1.1 k j = S.1 k j) → fX11_treats S1 a1 (nI i) (nI j) a4 = if nn = 120 then some (-1, gsi S1 54 0 0) else gbd (fX11_note (gsi S1 54 0 0) a1 (nI i) (nI j) a4 0) fun r S => some (r, S)) → Both S (fun S => fX10_treats S a1 (nI i) (nI j) a4) (fun S => fX11_treats S a1 (nI i) (nI j) a4) := by
    intro p hp4 h1 h2
    refine both_note (k := a1) (a := nI i) (o := nI j) (p := p) (e := 0) (a' := nI i) (b' := nI j) (c' := a4) (d' := 0) ht hc hp hk hn hr hf (fun hnn => ?_) h1 h2
    obtain ⟨w, hw, rfl⟩ := nI_of (x := a1) (fun q => c1 (fa_trans q (by decide)))
    have w1 : ¬ nI w < nI 2 := c1
    have w2 : ¬ nI 4 < nI w := c2
    rw [nI_ltI hw (by decide)] at w1
    rw [nI_ltI (by decide) hw] at w2
    have hk9 : gib (nI w) 9 = true := gib_nI (by omega) (by decide)
    have z1 : ¬ nI w ≤ (1 : Int32) := nI_ge (b := w) (a := 1) (by omega) hw
    have z3 : ¬ (4 : Int32) < nI w := c2
    have z4 : ¬ nI w = (7 : Int32) := by show ¬ nI w = nI 7; rw [nI_eq hw (by decide)]; omega
    have z5 : ¬ nI w = (8 : Int32) := by show ¬ nI w = nI 8; rw [nI_eq hw (by decide)]; omega
    unfold IVn1
    simp only [MN, XN, gsi]
    simp [hk9, z1, z3, z4, z5, c3, c4, ei, ej, told_le t3 hk hi, told_le t3 hk hj, gib_nI (show td < td + 1 by omega) (show td + 1 < 2 ^ 31 by omega)]
    intro _ _
    refine ⟨c5, fun q => ?_⟩
    have := hp4 (fun q2 => (fa_of_lt q).2.2.2.1 q2)
    exact ⟨this.1.symm, by rw [this.1]; exact this.2⟩
  by_cases c6 : a1 = 4
  · refine key (-1) (fun q => absurd c6 q) (by simp [fX10_treats, fX10_treats_56, c1, c2, xk, c3, c4, gz, gbv, lx.1 c5, c6]) (fun S1 hS1 => ?_)
    simp [fX11_treats, fX11_treats_54, glet, c1, c2, mk S1 hS1, c3, c4, gz, gbv, (lm S1 hS1).1 c5, c6, gsi_r, hS1, n2, eq120 n3]
  cases c7 : gib a4 np
  · exact hno (by simp [fX10_treats, c1, c2, xk, xp, c3, c4, gz, gbv, lx.1 c5, c6, c7]) (by simp [fX11_treats, glet, c1, c2, mk S rf, mp S rf, c3, c4, gz, gbv, (lm S rf).1 c5, c6, c7])
  · refine key a4 (fun _ => ⟨rfl, c7⟩) (by simp [fX10_treats, fX10_treats_56, c1, c2, xk, xp, c3, c4, gz, gbv, lx.1 c5, c6, c7]) (fun S1 hS1 => ?_)
    simp [fX11_treats, fX11_treats_54, glet, c1, c2, mk S1 hS1, mp S1 hS1, c3, c4, gz, gbv, (lm S1 hS1).1 c5, c6, c7, gsi_r, hS1, n2, eq120 n3]

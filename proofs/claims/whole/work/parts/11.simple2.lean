/-! calls that tell: courts, points, notes -/
theorem gib_f {j n : Nat} (hj : j < 2 ^ 31) (h : n ≤ j) : gib (nI j) n = false := by simp [gib, nI_clamp hj, h]
theorem gib_neg {a : Int32} {n : Nat} (h : a < 0) : gib a n = false := by simp [gib, h]
theorem call_court {S : GS} (h : IV S) (a b : Int32) : Both S (fun S => fX10_court S a b) (fun S => fX11_court S a b) := by
  obtain ⟨td, nt, nc, np, nk, nn, ht, hc, hp, hk, hn, hr, hf⟩ := id h
  have hno : fX10_court S a b = some (-1, S) → fX11_court S a b = some (-1, gsi S 54 0 0) → Both S (fun S => fX10_court S a b) (fun S => fX11_court S a b) := fun h1 h2 => ⟨-1, S, _, h1, h2, IV_thr h 0⟩
  obtain ⟨p1, p2, p3, p4⟩ := id hc
  by_cases c1 : a < 0
  · exact hno (by simp [fX10_court, c1]) (by simp [fX11_court, glet, c1])
  by_cases c2 : (9 : Int32) < a
  · exact hno (by simp [fX10_court, c1, c2]) (by simp [fX11_court, glet, c1, c2])
  by_cases c3 : b < 0
  · exact hno (by simp [fX10_court, c1, c2, c3]) (by simp [fX11_court, glet, c1, c2, c3])
  by_cases c4 : (3 : Int32) < b
  · have c5 : ¬ b ≤ 3 := fun q => (fa_of_lt c4).2.1 q
    exact hno (by simp [fX10_court, c1, c2, c3, c5]) (by simp [fX11_court, glet, c1, c2, c3, c4])
  have c5 : b ≤ 3 := fa_of_nlt c4
  by_cases c6 : nc = 6
  · have e6 : ¬ nI nc < (6 : Int32) := by subst c6; decide
    refine hno ?_ ?_
    · simp [fX10_court, fX1_add, c1, c2, c3, c5, p1, e6, gbd]
    · simp only [fX11_court, glet_s]
      rw [if_neg c1, if_neg c2, if_neg c3, if_neg c4, if_pos]
      simp [gsi, p2, c6]; decide
  have e6 : nI nc < (6 : Int32) := by show nI nc < nI 6; rw [nI_ltI (by omega) (by decide)]; omega
  have e7 : ¬ nI nc = (6 : Int32) := by show ¬ nI nc = nI 6; rw [nI_eq (by omega) (by decide)]; exact c6
  have e8 : gib (nI nc) 6 = true := gib_nI (by omega) (by decide)
  have e9 : (nI nc).toNatClampNeg = nc := nI_clamp (by omega)
  refine ⟨nI nc, gsi (gsi (gsi S 3 nc a) 4 nc b) 2 0 (nI (nc + 1)), gsi (gsi (gsi (gsi (gsi (gsi (gsi S 3 nc a) 4 nc b) 2 0 (nI (nc + 1))) 54 0 0) 63 nc a) 64 nc b) 54 30 (nI (nc + 1)), ?_, ?_, ?_⟩
  · simp [fX10_court, fX1_add, c1, c2, c3, c5, p1, e6, e8, e9, gbd, glet, gsi, nI_1, nI_m1]
  · simp only [fX11_court, glet_s]
    rw [if_neg c1, if_neg c2, if_neg c3, if_neg c4]
    simp [gsi, p2, e7, e8, e9, nI_1, nI_m1]
  · refine ⟨td, nt, nc + 1, np, nk, nn, ?_, ?_, ?_, ?_, ?_, ?_, ?_⟩
    · unfold IVt at ht ⊢; simpa [gsi] using ht
    · unfold IVc
      refine ⟨by simp [gsi], by simp [gsi], by omega, fun i hi => ?_⟩
      by_cases hin : i = nc
      · subst hin
        simp only [gsi]
        simp
        obtain ⟨j, hj, rfl⟩ := nI_of c1
        obtain ⟨j2, hj2, rfl⟩ := nI_of c3
        have q1 : ¬ nI 9 < nI j := c2
        have q2 : ¬ nI 3 < nI j2 := c4
        rw [nI_ltI (by decide) hj] at q1
        rw [nI_ltI (by decide) hj2] at q2
        exact ⟨gib_nI (by omega) (by decide), gib_nI (by omega) (by decide)⟩
      · have := p4 i (by omega)
        simpa [gsi, hin] using this
    · unfold IVp at hp ⊢; simpa [gsi] using hp
    · unfold IVk gLat gOi at hk ⊢
      simp only [gsi] at hk ⊢
      simp at hk ⊢
      refine ⟨hk.1, hk.2.1, hk.2.2.1, fun i hi => ?_, hk.2.2.2.2⟩
      obtain ⟨q1, q2, q3, q4, q5, q6, q7⟩ := hk.2.2.2.1 i hi
      exact ⟨q1, q2, q3, q4, q5, gib_ge q6 (by omega), q7⟩
    · unfold IVn IVn1 gLat at hn ⊢; simpa [gsi] using hn
    · obtain ⟨hr0, hr1⟩ := hr
      refine ⟨hr0, ?_⟩
      unfold IVl at hr1 ⊢
      show _ ∧ _
      dsimp only [gsi]
      rcases hr0 with ⟨z, -⟩ | ⟨z, -⟩ <;> rw [z] at hr1 ⊢ <;> simpa [gsi] using hr1
    · unfold IVf at hf ⊢; simpa [gsi] using hf
theorem call_point {S : GS} (h : IV S) : Both S (fun S => fX10_point S) (fun S => fX11_point S) := by
  obtain ⟨td, nt, nc, np, nk, nn, ht, hc, hp, hk, hn, hr, hf⟩ := id h
  obtain ⟨p1, p2, p3, p4⟩ := id hp
  by_cases c6 : np = 12
  · have e6 : ¬ nI np < (12 : Int32) := by subst c6; decide
    refine ⟨-1, S, gsi S 54 0 0, ?_, ?_, IV_thr h 0⟩
    · simp [fX10_point, p1, e6]
    · simp only [fX11_point, glet_s]
      rw [if_pos]
      simp [gsi, p2, c6]; decide
  have e6 : nI np < (12 : Int32) := by show nI np < nI 12; rw [nI_ltI (by omega) (by decide)]; omega
  have e7 : ¬ nI np = (12 : Int32) := by show ¬ nI np = nI 12; rw [nI_eq (by omega) (by decide)]; exact c6
  refine ⟨nI np, gsi S 5 0 (nI (np + 1)), gsi (gsi (gsi S 5 0 (nI (np + 1))) 54 0 0) 54 33 (nI (np + 1)), ?_, ?_, ?_⟩
  · simp [fX10_point, p1, e6, glet, gsi, nI_1, nI_m1]
  · simp only [fX11_point, glet_s]
    simp [gsi, p2, e7, nI_1, nI_m1]
  · refine ⟨td, nt, nc, np + 1, nk, nn, ?_, ?_, ?_, ?_, ?_, ?_, ?_⟩
    · unfold IVt at ht ⊢; simpa [gsi] using ht
    · unfold IVc at hc ⊢; simpa [gsi] using hc
    · unfold IVp
      exact ⟨by simp [gsi], by simp [gsi], by omega, fun i => by simpa [gsi] using p4 i⟩
    · unfold IVk gLat gOi at hk ⊢; simpa [gsi] using hk
    · unfold IVn IVn1 gLat at hn ⊢
      simp only [gsi] at hn ⊢
      simp at hn ⊢
      refine ⟨hn.1, hn.2.1, hn.2.2.1, fun i hi => ?_⟩
      obtain ⟨q1, q2, q3, q4, q5, q6, q7, q8, q9⟩ := hn.2.2.2 i hi
      refine ⟨q1, q2, q3, q4, fun z => ?_, fun z z2 => ?_, fun z z2 => ?_, fun z => ?_, q9⟩
      · obtain ⟨w1, w2, w3, w4, w5, w6, w7, w8⟩ := q5 z
        exact ⟨w1, w2, w3, w4, w5, w6, gib_ge w7 (by omega), w8⟩
      · obtain ⟨w1, w2, w3, w4, w5, w6, w7, w8⟩ := q6 z z2
        exact ⟨w1, w2, w3, w4, w5, w6, w7, fun y => ⟨(w8 y).1, gib_ge (w8 y).2 (by omega)⟩⟩
      · obtain ⟨w1, w2, w3, w4⟩ := q7 z z2
        exact ⟨w1, w2, gib_ge w3 (by omega), w4⟩
      · obtain ⟨w1, w2, w3, w4⟩ := q8 z
        exact ⟨w1, w2, gib_ge w3 (by omega), gib_ge w4 (by omega)⟩
    · obtain ⟨hr0, hr1⟩ := hr
      refine ⟨hr0, ?_⟩
      unfold IVl at hr1 ⊢
      show _ ∧ _
      dsimp only [gsi]
      rcases hr0 with ⟨z, -⟩ | ⟨z, -⟩ <;> rw [z] at hr1 ⊢ <;> simpa [gsi] using hr1
    · unfold IVf at hf ⊢; simpa [gsi] using hf

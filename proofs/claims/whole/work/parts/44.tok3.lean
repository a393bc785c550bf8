/-! the tokens of the reference -/
def TkM (S : GS) (u : Nat → Nat) (n q : Nat) : Prop := S.1 54 13 = nI n ∧ S.1 54 14 = nI q ∧ q ≤ n ∧ n ≤ 400 ∧ ∀ i, i < n → u i < 256 ∧ S.1 55 i = nI (u i)
def mNx (S : GS) : Option (Unit × GS) := glet (gsi S 54 15 (S.1 54 14)) fun S7 => gbv (fX11_here S7) fun r9 => (if r9 = (-1 : Int32) then glet (gsi S7 54 16 (3 : Int32)) fun S27 => (some ((), S27)) else gbv (fX11_isSmall S7 r9) fun r12 => (if r12 = 0 then gbv (fX11_isDigit S7 r9) fun r15 => (if r15 = 0 then glet (gsi S7 54 14 ((S7.1 54 14) + (1 : Int32))) fun S17 => glet (gsi S17 54 16 (2 : Int32)) fun S18 => glet (gsi S18 54 17 r9) fun S19 => (if r9 = (60 : Int32) then gbv (fX11_here S19) fun r22 => (if r22 = (61 : Int32) then glet (gsi S19 54 17 (256 : Int32)) fun S24 => (fX11_next_280 S24 r9) else (fX11_next_233 S19 r9)) else (fX11_next_233 S19 r9)) else glet (gsi S7 54 16 (1 : Int32)) fun S25 => glet (gsi S25 54 17 (0 : Int32)) fun S26 => (fX11_next_128 FU S26)) else (fX11_next_62 FU S7)))
def mWd (S : GS) : Option (Unit × GS) := gbv (fX11_word S) fun r7 => glet (gsi S 54 17 r7) fun S8 => (if (S8.1 54 17) = (-1 : Int32) then glet (gsi S8 54 16 (4 : Int32)) fun S11 => (some ((), S11)) else glet (gsi S8 54 16 (0 : Int32)) fun S10 => (some ((), S10)))
def gHr (u : Nat → Nat) (n q : Nat) : Int32 := if q < n then nI (u q) else -1
section
variable {S : GS} {u : Nat → Nat} {n q : Nat}
theorem TkM.fr (h : TkM S u n q) {S' : GS} (e1 : S'.1 54 13 = S.1 54 13) {q' : Nat} (e2 : S'.1 54 14 = nI q') (hq : q' ≤ n) (e3 : ∀ i, i < n → S'.1 55 i = S.1 55 i) : TkM S' u n q' := by
  obtain ⟨h2, h3, h4, h5, h6⟩ := h
  exact ⟨e1.trans h2, e2, hq, h5, fun i hi => ⟨(h6 i hi).1, (e3 i hi).trans (h6 i hi).2⟩⟩
theorem TkM.nx (h : TkM S u n q) {q' : Nat} (hq : q' ≤ n) : TkM (gsi S 54 14 (nI q')) u n q' := h.fr (S' := gsi S 54 14 (nI q')) (by simp [gsi_r]) (by simp [gsi_r]) hq (fun i _ => by simp [gsi_r])
theorem TkM.ot (h : TkM S u n q) {j : Nat} (hj : 15 ≤ j) (x : Int32) : TkM (gsi S 54 j x) u n q := h.fr (S' := gsi S 54 j x) (by rw [gsi_r, if_neg (by omega)]) (by rw [gsi_r, if_neg (by omega)]; exact h.2.1) h.2.2.1 (fun i _ => by simp [gsi_r])
theorem m_here (h : TkM S u n q) : fX11_here S = some (gHr u n q) := by
  obtain ⟨h2, h3, h4, h5, h6⟩ := h
  unfold fX11_here gHr
  rw [h2, h3]
  by_cases c : q < n
  · rw [if_neg (nI_ge c (by omega)), if_pos (gib_nI (by omega) (by decide)), nI_clamp (by omega), if_pos c, (h6 q c).2]
  · rw [if_pos (nI_le (by omega) (by omega)), if_neg c]
theorem gHr_eq (h : TkM S u n q) {c : Nat} (hc : c < 128) : gHr u n q = nI c ↔ gNx u n q = c := by
  unfold gHr gNx
  by_cases z : q < n
  · have := (h.2.2.2.2 q z).1
    rw [if_pos z, if_pos z, nI_eq (by omega) (by omega)]
  · rw [if_neg z, if_neg z]
    constructor
    · intro e
      rw [fa_eq, nI_toInt (by omega)] at e
      have : (-1 : Int32).toInt = -1 := by decide
      omega
    · intro e; omega
theorem m_small (h : TkM S u n q) (S1 : GS) : fX11_isSmall S1 (gHr u n q) = some (gz (decide (q < n) && cL (u q))) := by
  unfold fX11_isSmall gHr
  by_cases z : q < n
  · have := (h.2.2.2.2 q z).1
    rw [if_pos z, decide_eq_true z, Bool.true_and]
    by_cases c1 : u q < 97
    · rw [if_pos (show nI (u q) < (97 : Int32) from nI_lt (b := 97) c1 (by decide))]
      have : cL (u q) = false := by simp [cL]; omega
      rw [this]; rfl
    rw [if_neg (show ¬ nI (u q) < (97 : Int32) from nI_nlt (b := 97) (by omega) (by omega))]
    by_cases c2 : 122 < u q
    · rw [if_pos (show (122 : Int32) < nI (u q) from nI_lt (a := 122) c2 (by omega))]
      have : cL (u q) = false := by simp [cL]; omega
      rw [this]; rfl
    rw [if_neg (show ¬ (122 : Int32) < nI (u q) from nI_nlt (a := 122) (by omega) (by decide))]
    have : cL (u q) = true := by simp [cL]; omega
    rw [this]; rfl
  · rw [if_neg z, decide_eq_false z]; rfl
theorem m_digit (h : TkM S u n q) (S1 : GS) : fX11_isDigit S1 (gHr u n q) = some (gz (decide (q < n) && cD (u q))) := by
  unfold fX11_isDigit gHr
  by_cases z : q < n
  · have := (h.2.2.2.2 q z).1
    rw [if_pos z, decide_eq_true z, Bool.true_and]
    by_cases c1 : u q < 48
    · rw [if_pos (show nI (u q) < (48 : Int32) from nI_lt (b := 48) c1 (by decide))]
      have : cD (u q) = false := by simp [cD]; omega
      rw [this]; rfl
    rw [if_neg (show ¬ nI (u q) < (48 : Int32) from nI_nlt (b := 48) (by omega) (by omega))]
    by_cases c2 : 57 < u q
    · rw [if_pos (show (57 : Int32) < nI (u q) from nI_lt (a := 57) c2 (by omega))]
      have : cD (u q) = false := by simp [cD]; omega
      rw [this]; rfl
    rw [if_neg (show ¬ (57 : Int32) < nI (u q) from nI_nlt (a := 57) (by omega) (by decide))]
    have : cD (u q) = true := by simp [cD]; omega
    rw [this]; rfl
  · rw [if_neg z, decide_eq_false z]; rfl
end
theorem next0_eq (k : Nat) (S : GS) : fX11_next_0 (k + 1) S = gbv (fX11_here S) fun r2 => (if r2 = (10 : Int32) then (fX11_next_18 (fX11_next_0 k) S) else gbv (fX11_here S) fun r5 => (if r5 = (32 : Int32) then (fX11_next_18 (fX11_next_0 k) S) else mNx S)) := rfl
theorem next62_eq (k : Nat) (S : GS) : fX11_next_62 (k + 1) S = gbv (fX11_here S) fun r2 => gbv (fX11_isSmall S r2) fun r4 => (if r4 = 0 then mWd S else glet (gsi S 54 14 ((S.1 54 14) + (1 : Int32))) fun S12 => (fX11_next_62 k S12)) := rfl
theorem m_blank {u : Nat → Nat} {n : Nat} : ∀ k S q, TkM S u n q → n - q < k → fX11_next_0 k S = mNx (gsi S 54 14 (nI (gRn cB u n q)))
  | 0, _, _, _, h => absurd h (Nat.not_lt_zero _)
  | k + 1, S, q, h, hk => by
    rw [next0_eq, m_here h]
    simp only [gbv_s]
    have st : q < n → cB (u q) = true → fX11_next_18 (fX11_next_0 k) S = mNx (gsi S 54 14 (nI (gRn cB u n q))) := by
      intro hq hc
      unfold fX11_next_18
      rw [glet_s, h.2.1, nI_1, m_blank k _ (q + 1) (h.nx (by omega)) (by omega), gsi_2, gRn_pos hq hc]
    have lt : ∀ {c : Nat}, c < 128 → gNx u n q = c → q < n ∧ u q = c := by
      intro c hc e
      unfold gNx at e
      by_cases z : q < n
      · rw [if_pos z] at e; exact ⟨z, e⟩
      · rw [if_neg z] at e; omega
    by_cases c1 : gHr u n q = (10 : Int32)
    · obtain ⟨z1, z2⟩ := lt (by decide) ((gHr_eq h (c := 10) (by decide)).mp c1)
      rw [if_pos c1, st z1 (by simp [cB, z2])]
    rw [if_neg c1]
    by_cases c2 : gHr u n q = (32 : Int32)
    · obtain ⟨z1, z2⟩ := lt (by decide) ((gHr_eq h (c := 32) (by decide)).mp c2)
      rw [if_pos c2, st z1 (by simp [cB, z2])]
    rw [if_neg c2, gRn_neg, gsi_0 h.2.1]
    rintro ⟨z1, z2⟩
    have e : gNx u n q = u q := if_pos z1
    have d1 := fun y => c1 ((gHr_eq h (c := 10) (by decide)).mpr (e.trans y))
    have d2 := fun y => c2 ((gHr_eq h (c := 32) (by decide)).mpr (e.trans y))
    simp [cB] at z2
    rcases z2 with z2 | z2
    · exact d1 z2
    · exact d2 z2
theorem m_letters {u : Nat → Nat} {n : Nat} : ∀ k S q, TkM S u n q → n - q < k → fX11_next_62 k S = mWd (gsi S 54 14 (nI (gRn cL u n q)))
  | 0, _, _, _, h => absurd h (Nat.not_lt_zero _)
  | k + 1, S, q, h, hk => by
    rw [next62_eq, m_here h, gbv_s, m_small h, gbv_s]
    by_cases c : q < n ∧ cL (u q) = true
    · rw [decide_eq_true c.1, c.2, if_neg (by decide), glet_s, h.2.1, nI_1, m_letters k _ (q + 1) (h.nx (by omega)) (by omega), gsi_2, gRn_pos c.1 c.2]
    · have : (decide (q < n) && cL (u q)) = false := by
        cases e : cL (u q)
        · simp
        · simp; exact Nat.le_of_not_lt (fun z => c ⟨z, e⟩)
      rw [this, if_pos (by decide), gRn_neg c, gsi_0 h.2.1]
theorem gsi_4 (S : GS) (k : Nat) {i j : Nat} (h : i ≠ j) (x y z w : Int32) : gsi (gsi (gsi (gsi S k i x) k j y) k i z) k j w = gsi (gsi S k i z) k j w := by
  unfold gsi
  congr 1
  funext a b
  by_cases h1 : a = k ∧ b = i
  · simp [h1, h]
  · by_cases h2 : a = k ∧ b = j
    · simp [h2]
    · simp [h1, h2]
theorem m_digits {u : Nat → Nat} {n : Nat} : ∀ k S q v, TkM S u n q → S.1 54 17 = nI v → v ≤ 99999 → n - q < k → fX11_next_128 k S = some ((), gsi (gsi S 54 17 (nI (gNv u n q v))) 54 14 (nI (gRn cD u n q)))
  | 0, _, _, _, _, _, _, h => absurd h (Nat.not_lt_zero _)
  | k + 1, S, q, v, h, hv, hv9, hk => by
    rw [fX11_next_128, m_here h, gbv_s, m_digit h, gbv_s]
    by_cases c : q < n ∧ cD (u q) = true
    · have hd2 : 48 ≤ u q ∧ u q ≤ 57 := by simpa [cD] using c.2
      rw [decide_eq_true c.1, c.2, if_neg (by decide), gRn_pos c.1 c.2, gNv_pos c.1 c.2, hv]
      have go : ∀ w : Nat, w ≤ 99999 → fX11_next_171 (fX11_next_128 k) S (nI w) = some ((), gsi (gsi S 54 17 (nI (gNv u n (q + 1) w))) 54 14 (nI (gRn cD u n (q + 1)))) := by
        intro w hw
        unfold fX11_next_171
        rw [glet_s, glet_s, show (gsi S 54 17 (nI w)).1 54 14 = nI q by simp [gsi_r]; exact h.2.1, nI_1, m_digits k _ (q + 1) w ((h.ot (by decide) _).nx (by omega)) (by simp [gsi_r]) hw (by omega)]
        rw [gsi_4 S 54 (by decide : (17 : Nat) ≠ 14)]
      by_cases c3 : v ≤ 9999
      · rw [if_pos (show nI v ≤ (9999 : Int32) from nI_le (b := 9999) c3 (by decide)), gbv_s, if_pos c3]
        have e1 : (10 : Int32) * nI v + gHr u n q - (48 : Int32) = nI (v * 10 + (u q - 48)) := by
          unfold gHr
          rw [if_pos c.1]
          show nI 10 * nI v + nI (u q) - nI 48 = _
          rw [pk_mul, nI_add, pk_sub (by omega)]
          congr 1
          omega
        rw [e1]
        exact go _ (by omega)
      · rw [if_neg (show ¬ nI v ≤ (9999 : Int32) from nI_ge (a := 9999) (b := v) (by omega) (by omega)), if_neg c3]
        exact go v hv9
    · have : (decide (q < n) && cD (u q)) = false := by
        cases e : cD (u q)
        · simp
        · simp; exact Nat.le_of_not_lt (fun z => c ⟨z, e⟩)
      rw [this, if_pos (by decide), gRn_neg c, gNv_neg c, gsi_0 hv, gsi_0 h.2.1]

/-! the rules: what waits, in words; release and pour -/
theorem gsi_n {S : GS} {k j a b : Nat} {x : Int32} (h : a ≠ k ∨ b ≠ j) : (gsi S k j x).1 a b = S.1 a b := by rw [gsi_r, if_neg (by omega)]
theorem gsi_s {S : GS} {k j : Nat} {x : Int32} : (gsi S k j x).1 k j = x := by rw [gsi_r, if_pos ⟨rfl, rfl⟩]
def kSt (t : Nat) : Nat := if t = 19 then 1 else if t = 18 then 2 else if t = 17 then 3 else if 7 ≤ t ∧ t ≤ 12 then 4 else if t = 13 ∨ t = 14 then 5 else if t = 15 ∨ t = 16 then 6 else 0
def gSgP (t : Nat) : Int32 := if t = 5 then 40 else gSg t
theorem x_str_all : ∀ t, t < 31 → fX6_strengthOf gS0 (nI t) = some (nI (kSt t)) := by decide +kernel
theorem x_str {S : GS} {t : Nat} (h : t < 31) : fX6_strengthOf S (nI t) = some (nI (kSt t)) := by
  show fX6_strengthOf gS0 (nI t) = _
  exact x_str_all t h
theorem m_bind_all : ∀ t, t < 20 → (t = 5 ∨ 7 ≤ t) → fX11_bind gS0 (gSgP t) = some (nI (kSt t)) := by decide +kernel
theorem m_bind {S : GS} {t : Nat} (h : t < 20) (h2 : t = 5 ∨ 7 ≤ t) : fX11_bind S (gSgP t) = some (nI (kSt t)) := by
  show fX11_bind gS0 (gSgP t) = _
  exact m_bind_all t h h2
theorem kSt_le (t : Nat) : kSt t ≤ 6 := by
  unfold kSt
  repeat' split
  all_goals omega
theorem kSt_pos {t : Nat} (h : 7 ≤ t) (h2 : t ≤ 19) : 1 ≤ kSt t := by
  unfold kSt
  repeat' split
  all_goals omega
def cn (p : Nat → Bool) (k : Nat → Nat) : Nat → Nat
  | 0 => 0
  | z + 1 => cn p k z + (if p (k z) = true then 1 else 0)
def is5 (t : Nat) : Bool := decide (t = 5)
def isN (t : Nat) : Bool := decide (t ≠ 5)
def isB (t : Nat) : Bool := decide (t ≠ 5 ∧ t ≠ 17)
theorem cn_sum (k : Nat → Nat) : ∀ z, cn is5 k z + cn isN k z = z
  | 0 => rfl
  | z + 1 => by
    have := cn_sum k z
    rw [cn, cn]
    by_cases h : k z = 5
    · simp [is5, isN, h]; omega
    · simp [is5, isN, h]; omega
theorem cn_cg {p : Nat → Bool} {k k' : Nat → Nat} : ∀ z, (∀ i, i < z → k i = k' i) → cn p k z = cn p k' z
  | 0, _ => rfl
  | z + 1, h => by rw [cn, cn, cn_cg z (fun i hi => h i (by omega)), h z (by omega)]
theorem cn5_pos {k : Nat → Nat} {z : Nat} (h : k z = 5) : 1 ≤ cn is5 k (z + 1) := by
  rw [cn, if_pos (by simp [is5, h])]; omega
def okS (k : Nat → Nat) (z : Nat) : Prop := ∀ i, i < z → k i = 5 ∨ (7 ≤ k i ∧ k i ≤ 19)
def PI (z : Nat) (k : Nat → Nat) (o c m : Nat) (K : Nat → Int32) (b : Nat) : Prop := okS k z ∧ cn is5 k z = o ∧ o ≤ 8 ∧ m + cn isN k z ≤ c ∧ c ≤ 64 ∧ gHt2 K m = some (cn isB k z + b)
theorem gHt2_cg {f g : Nat → Int32} : ∀ n, (∀ i, i < n → f i = g i) → gHt2 f n = gHt2 g n
  | 0, _ => rfl
  | n + 1, h => by
    have e := gHt2_cg n (fun i hi => h i (by omega))
    simp only [gHt2, e, h n (by omega)]
theorem gHt2_up (K : Nat → Int32) (m : Nat) (x : Int32) : gHt2 (upd K m x) m = gHt2 K m := gHt2_cg m (fun i hi => pk_un (by omega))
theorem ht0 {K : Nat → Int32} {m h : Nat} {x : Int32} (hx : gOp x = 0) (hh : gHt2 K m = some h) : gHt2 (upd K m x) (m + 1) = some (h + 1) := by
  simp only [gHt2, gHt2_up, hh, pk_us, hx, if_true]
theorem ht1 {K : Nat → Int32} {m h : Nat} {x : Int32} (hx : gOp x = 1) (hh : gHt2 K m = some h) (h1 : 1 ≤ h) : gHt2 (upd K m x) (m + 1) = some h := by
  simp [gHt2, gHt2_up, hh, pk_us, hx, h1]
theorem ht2 {K : Nat → Int32} {m h : Nat} {x : Int32} (hx : gOp x = 2) (hh : gHt2 K m = some h) (h1 : 2 ≤ h) : gHt2 (upd K m x) (m + 1) = some (h - 1) := by
  simp [gHt2, gHt2_up, hh, pk_us, hx, h1]
/-- what is let go down to a strength -/
def gRl (k : Nat → Nat) (l : Nat) : Nat → Nat → (Nat → Int32) → Nat × Nat × (Nat → Int32)
  | 0, m, K => (0, m, K)
  | z + 1, m, K => if k z ≠ 5 ∧ l ≤ kSt (k z) then gRl k l z (m + 1) (upd K m (-(nI (k z)))) else (z + 1, m, K)
theorem gRl_ok {k : Nat → Nat} {l o c : Nat} : ∀ z m K, PI z k o c m K 1 → PI (gRl k l z m K).1 k o c (gRl k l z m K).2.1 (gRl k l z m K).2.2 1 ∧ (gRl k l z m K).1 ≤ z ∧ ((gRl k l z m K).1 = 0 ∨ k ((gRl k l z m K).1 - 1) = 5 ∨ kSt (k ((gRl k l z m K).1 - 1)) < l)
  | 0, m, K, h => ⟨h, Nat.le_refl _, Or.inl rfl⟩
  | z + 1, m, K, h => by
    rw [gRl]
    by_cases c1 : k z ≠ 5 ∧ l ≤ kSt (k z)
    · rw [if_pos c1]
      obtain ⟨h1, h2, h3, h4, h5, h6⟩ := h
      have hz : 7 ≤ k z ∧ k z ≤ 19 := by
        rcases h1 z (by omega) with q | q
        · exact absurd q c1.1
        · exact q
      have e5 : cn is5 k (z + 1) = cn is5 k z := by rw [cn, if_neg (by simp [is5, c1.1]), Nat.add_zero]
      have eN : cn isN k (z + 1) = cn isN k z + 1 := by rw [cn, if_pos (by simp [isN, c1.1])]
      obtain ⟨o1, -⟩ := op_C hz.1 hz.2
      have hp : PI z k o c (m + 1) (upd K m (-(nI (k z)))) 1 := by
        refine ⟨fun i hi => h1 i (by omega), by rw [← e5]; exact h2, h3, by omega, h5, ?_⟩
        by_cases c2 : k z = 17
        · have eB : cn isB k (z + 1) = cn isB k z := by rw [cn, if_neg (by simp [isB, c2]), Nat.add_zero]
          rw [eB] at h6
          rw [if_pos c2] at o1
          exact ht1 o1 h6 (by omega)
        · have eB : cn isB k (z + 1) = cn isB k z + 1 := by rw [cn, if_pos (by simp [isB, c1.1, c2])]
          rw [eB] at h6
          rw [if_neg c2] at o1
          exact ht2 o1 h6 (by omega)
      obtain ⟨r1, r2, r3⟩ := gRl_ok (l := l) z (m + 1) _ hp
      exact ⟨r1, by omega, r3⟩
    · rw [if_neg c1]
      refine ⟨h, Nat.le_refl _, Or.inr ?_⟩
      show k z = 5 ∨ kSt (k z) < l
      by_cases c2 : k z = 5
      · exact Or.inl c2
      · exact Or.inr (Nat.lt_of_not_le (fun q => c1 ⟨c2, q⟩))
theorem gRl_01 {k : Nat → Nat} : ∀ z m K, okS k z → gRl k 0 z m K = gRl k 1 z m K
  | 0, m, K, _ => rfl
  | z + 1, m, K, h => by
    rw [gRl, gRl, gRl_01 z (m + 1) _ (fun i hi => h i (by omega))]
    by_cases c : k z = 5
    · rw [if_neg (fun q => q.1 c), if_neg (fun q => q.1 c)]
    · have hz : 7 ≤ k z ∧ k z ≤ 19 := by
        rcases h z (by omega) with q | q
        · exact absurd q c
        · exact q
      rw [if_pos ⟨c, Nat.zero_le _⟩, if_pos ⟨c, kSt_pos hz.1 hz.2⟩]
def wRl (f k j : Nat) : Bool := (k == 31 && j == 5) || ((k == f && j == 1) || k == f + 1)
theorem x_fadd {S : GS} {f m : Nat} {x : Int32} (hf : f = 22 ∨ f = 24 ∨ f = 27 ∨ f = 29) (h : S.1 f 1 = nI m) (hm : m < 64) : fX2_add S f x = some ((), gsi (gsi S (f + 1) m x) f 1 (nI (m + 1))) := by
  obtain ⟨g1, g2, g3, g4⟩ := form_cells hf S.2.2
  unfold fX2_add
  rw [if_pos g1, h, if_neg (show ¬ (64 : Int32) ≤ nI m from nI_ge (b := 64) hm (by decide)), g2, if_pos g3, g4, if_pos (gib_nI hm (by decide)), nI_clamp (by omega), glet_s, glet_s, gsi_n (by omega), h, nI_1]
theorem x_rel0 {f l : Nat} {k : Nat → Nat} (hf : f = 22 ∨ f = 24 ∨ f = 27 ∨ f = 29) (hl : l ≤ 6) : ∀ z n S m K, S.1 31 5 = nI z → z ≤ 72 → (∀ i, i < z → S.1 34 i = nI (k i)) → okS k z → S.1 f 1 = nI m → (∀ i, i < m → S.1 (f + 1) i = K i) → m + cn isN k z ≤ 64 → z < n →
    ∃ S', fX6_release_0 n S f (nI l) = some ((), S') ∧ Wr (wRl f) S S' ∧ S'.1 31 5 = nI (gRl k l z m K).1 ∧ S'.1 f 1 = nI (gRl k l z m K).2.1 ∧ ∀ i, i < (gRl k l z m K).2.1 → S'.1 (f + 1) i = (gRl k l z m K).2.2 i
  | _, 0, _, _, _, _, _, _, _, _, _, _, hn => absurd hn (Nat.not_lt_zero _)
  | 0, n + 1, S, m, K, h5, _, _, _, hm, hK, _, _ => by
    rw [fX6_release_0, h5, if_pos (show nI 0 ≤ 0 by decide)]
    exact ⟨S, rfl, Wr.rf, h5, hm, hK⟩
  | z + 1, n + 1, S, m, K, h5, hz, h34, hok, hm, hK, hc, hn => by
    have hkz := hok z (by omega)
    rw [fX6_release_0, h5, if_neg (nI_nle (by omega) (by omega)), nI_m1, if_pos (gib_nI (show z < 72 by omega) (by decide)), nI_clamp (show z < 2 ^ 31 by omega), h34 z (by omega), gRl]
    by_cases c1 : k z = 5
    · rw [if_pos (show nI (k z) = (5 : Int32) by rw [c1]; rfl), if_neg (fun q => q.1 c1)]
      exact ⟨S, rfl, Wr.rf, h5, hm, hK⟩
    rw [if_neg (show ¬ nI (k z) = (5 : Int32) from fun q => c1 ((nI_eq (b := 5) (by omega) (by decide)).mp q)), x_str (by omega), gbv_s]
    have h6 := kSt_le (k z)
    by_cases c2 : kSt (k z) < l
    · rw [if_pos (nI_lt c2 (by omega)), if_neg (fun q => by omega)]
      exact ⟨S, rfl, Wr.rf, h5, hm, hK⟩
    rw [if_neg (nI_nlt (by omega) (by omega)), if_pos ⟨c1, by omega⟩, glet_s, gsi_s, if_pos (gib_nI (show z < 72 by omega) (by decide)), if_pos (form_cells hf S.2.2).1, nI_clamp (show z < 2 ^ 31 by omega), gsi_n (by omega), h34 z (by omega)]
    have eN : cn isN k (z + 1) = cn isN k z + 1 := by rw [cn, if_pos (by simp [isN, c1])]
    rw [x_fadd hf (by rw [gsi_n (by omega)]; exact hm) (by omega), gbd_s]
    obtain ⟨S', r1, r2, r3⟩ := x_rel0 hf hl z n (gsi (gsi (gsi S 31 5 (nI z)) (f + 1) m (-nI (k z))) f 1 (nI (m + 1))) (m + 1) (upd K m (-(nI (k z)))) (by rw [gsi_n (by omega), gsi_n (by omega), gsi_s]) (by omega) (fun i hi => by rw [gsi_n (by omega), gsi_n (by omega), gsi_n (by omega)]; exact h34 i (by omega)) (fun i hi => hok i (by omega)) gsi_s (fun i hi => by
      by_cases e : i = m
      · subst e; rw [gsi_n (by omega), gsi_s, pk_us]
      · rw [gsi_n (by omega), gsi_n (by omega), gsi_n (by omega), pk_un e]; exact hK i (by omega)) (by omega) (by omega)
    refine ⟨S', r1, Wr.tr ?_ r2, r3⟩
    exact ((Wr.rf.si (by simp [wRl]) _).si (by simp [wRl]) _).si (by simp [wRl]) _
theorem x_rel {f l z m : Nat} {k : Nat → Nat} {S : GS} {K : Nat → Int32} (hf : f = 22 ∨ f = 24 ∨ f = 27 ∨ f = 29) (hl : l ≤ 6) (h5 : S.1 31 5 = nI z) (hz : z ≤ 72) (h34 : ∀ i, i < z → S.1 34 i = nI (k i)) (hok : okS k z) (hm : S.1 f 1 = nI m) (hK : ∀ i, i < m → S.1 (f + 1) i = K i) (hc : m + cn isN k z ≤ 64) :
    ∃ S', fX6_release S f (nI l) = some ((), S') ∧ Wr (wRl f) S S' ∧ S'.1 31 5 = nI (gRl k l z m K).1 ∧ S'.1 f 1 = nI (gRl k l z m K).2.1 ∧ ∀ i, i < (gRl k l z m K).2.1 → S'.1 (f + 1) i = (gRl k l z m K).2.2 i := x_rel0 hf hl z FU S m K h5 hz h34 hok hm hK hc (FU_gt (by omega))
def wPr (w k j : Nat) : Bool := (k == 54 && j == 24) || (((k == 56 || k == 57) && (decide (64 * (2 + w) ≤ j) && decide (j < 64 * (2 + w) + 64))) || (k == 58 && j == 2 + w))
theorem m_out {S : GS} {w m : Nat} {a b : Int32} (hw : w < 2) (h22 : S.1 54 22 = nI (2 + w)) (h58 : S.1 58 (2 + w) = nI m) (hm : m < 64) : fX11_out S a b = some ((), gsi (gsi (gsi S 56 (64 * (2 + w) + m) a) 57 (64 * (2 + w) + m) b) 58 (2 + w) (nI (m + 1))) := by
  have gw : gib (nI (2 + w)) 4 = true := gib_nI (by omega) (by decide)
  have ew : (nI (2 + w)).toNatClampNeg = 2 + w := nI_clamp (by omega)
  have e4 : (64 : Int32) * nI (2 + w) + nI m = nI (64 * (2 + w) + m) := by
    show nI 64 * nI (2 + w) + nI m = _
    rw [pk_mul, nI_add]
  have g4 : gib (nI (64 * (2 + w) + m)) 256 = true := gib_nI (by omega) (by decide)
  have f4 : (nI (64 * (2 + w) + m)).toNatClampNeg = 64 * (2 + w) + m := nI_clamp (by omega)
  unfold fX11_out
  have r1 : ∀ y : Int32, (gsi S 56 (64 * (2 + w) + m) y).1 54 22 = nI (2 + w) := fun y => by rw [gsi_n (by omega)]; exact h22
  have r2 : ∀ y : Int32, (gsi S 56 (64 * (2 + w) + m) y).1 58 (2 + w) = nI m := fun y => by rw [gsi_n (by omega)]; exact h58
  have r3 : ∀ y y' : Int32, (gsi (gsi S 56 (64 * (2 + w) + m) y) 57 (64 * (2 + w) + m) y').1 54 22 = nI (2 + w) := fun y y' => by rw [gsi_n (by omega)]; exact r1 y
  have r4 : ∀ y y' : Int32, (gsi (gsi S 56 (64 * (2 + w) + m) y) 57 (64 * (2 + w) + m) y').1 58 (2 + w) = nI m := fun y y' => by rw [gsi_n (by omega)]; exact r2 y
  simp only [glet_s, h22, ew, h58, e4, f4, r1, r2, r3, r4, gw, g4, if_true, nI_1]
theorem m_pour0 {w l : Nat} {k : Nat → Nat} (hw : w < 2) (hl : l ≤ 6) (hl1 : 1 ≤ l) : ∀ z n S m K, S.1 54 24 = nI z → z ≤ 72 → (∀ i, i < z → S.1 60 i = gSgP (k i)) → okS k z → S.1 54 22 = nI (2 + w) → S.1 58 (2 + w) = nI m → (∀ i, i < m → gKn (K i) (S.1 56 (64 * (2 + w) + i)) (S.1 57 (64 * (2 + w) + i))) → m + cn isN k z ≤ 64 → z < n →
    ∃ S', fX11_pour_0 n S (nI l) = some ((), S') ∧ Wr (wPr w) S S' ∧ S'.1 54 24 = nI (gRl k l z m K).1 ∧ S'.1 58 (2 + w) = nI (gRl k l z m K).2.1 ∧ ∀ i, i < (gRl k l z m K).2.1 → gKn ((gRl k l z m K).2.2 i) (S'.1 56 (64 * (2 + w) + i)) (S'.1 57 (64 * (2 + w) + i))
  | _, 0, _, _, _, _, _, _, _, _, _, _, _, hn => absurd hn (Nat.not_lt_zero _)
  | 0, n + 1, S, m, K, h5, _, _, _, _, hm, hK, _, _ => by
    rw [fX11_pour_0, h5, if_pos (show nI 0 ≤ 0 by decide)]
    exact ⟨S, rfl, Wr.rf, h5, hm, hK⟩
  | z + 1, n + 1, S, m, K, h5, hz, h34, hok, h22, hm, hK, hc, hn => by
    have hkz := hok z (by omega)
    have h6 := kSt_le (k z)
    rw [fX11_pour_0, h5, if_neg (nI_nle (by omega) (by omega)), nI_m1, if_pos (gib_nI (show z < 96 by omega) (by decide)), nI_clamp (show z < 2 ^ 31 by omega), h34 z (by omega), gRl, m_bind (by omega) (by omega), gbv_s]
    by_cases c2 : kSt (k z) < l
    · rw [if_pos (nI_lt c2 (by omega)), if_neg (fun q => by omega)]
      exact ⟨S, rfl, Wr.rf, h5, hm, hK⟩
    have c1 : k z ≠ 5 := by
      intro q
      rw [q] at c2
      have : kSt 5 = 0 := by decide
      omega
    rw [if_neg (nI_nlt (by omega) (by omega)), if_pos ⟨c1, by omega⟩, glet_s, gsi_s, if_pos (gib_nI (show z < 96 by omega) (by decide)), nI_clamp (show z < 2 ^ 31 by omega), gsi_n (by omega), h34 z (by omega)]
    have eN : cn isN k (z + 1) = cn isN k z + 1 := by rw [cn, if_pos (by simp [isN, c1])]
    rw [m_out hw (by rw [gsi_n (by omega)]; exact h22) (by rw [gsi_n (by omega)]; exact hm) (by omega), gbd_s]
    obtain ⟨S', r1, r2, r3⟩ := m_pour0 hw hl hl1 z n (gsi (gsi (gsi (gsi S 54 24 (nI z)) 56 (64 * (2 + w) + m) 2) 57 (64 * (2 + w) + m) (gSgP (k z))) 58 (2 + w) (nI (m + 1))) (m + 1) (upd K m (-(nI (k z)))) (by rw [gsi_n (by omega), gsi_n (by omega), gsi_n (by omega), gsi_s]) (by omega) (fun i hi => by rw [gsi_n (by omega), gsi_n (by omega), gsi_n (by omega), gsi_n (by omega)]; exact h34 i (by omega)) (fun i hi => hok i (by omega)) (by rw [gsi_n (by omega), gsi_n (by omega), gsi_n (by omega), gsi_n (by omega)]; exact h22) gsi_s (fun i hi => by
      by_cases e : i = m
      · subst e
        rw [gsi_n (by omega), gsi_n (by omega), gsi_s, gsi_n (by omega), gsi_s, pk_us]
        exact Or.inr (Or.inr ⟨k z, by omega, by omega, rfl, rfl, by unfold gSgP; rw [if_neg c1]⟩)
      · rw [gsi_n (by omega), gsi_n (by omega), gsi_n (by omega), gsi_n (by omega), gsi_n (by omega), gsi_n (by omega), gsi_n (by omega), gsi_n (by omega), pk_un e]; exact hK i (by omega)) (by omega) (by omega)
    refine ⟨S', r1, Wr.tr ?_ r2, r3⟩
    exact (((Wr.rf.si (by simp [wPr]) _).si (by simp [wPr]; omega) _).si (by simp [wPr]; omega) _).si (by simp [wPr]) _
theorem m_pour {w l z m : Nat} {k : Nat → Nat} {S : GS} {K : Nat → Int32} (hw : w < 2) (hl : l ≤ 6) (hl1 : 1 ≤ l) (h5 : S.1 54 24 = nI z) (hz : z ≤ 72) (h34 : ∀ i, i < z → S.1 60 i = gSgP (k i)) (hok : okS k z) (h22 : S.1 54 22 = nI (2 + w)) (hm : S.1 58 (2 + w) = nI m) (hK : ∀ i, i < m → gKn (K i) (S.1 56 (64 * (2 + w) + i)) (S.1 57 (64 * (2 + w) + i))) (hc : m + cn isN k z ≤ 64) :
    ∃ S', fX11_pour S (nI l) = some ((), S') ∧ Wr (wPr w) S S' ∧ S'.1 54 24 = nI (gRl k l z m K).1 ∧ S'.1 58 (2 + w) = nI (gRl k l z m K).2.1 ∧ ∀ i, i < (gRl k l z m K).2.1 → gKn ((gRl k l z m K).2.2 i) (S'.1 56 (64 * (2 + w) + i)) (S'.1 57 (64 * (2 + w) + i)) := m_pour0 hw hl hl1 z FU S m K h5 hz h34 hok h22 hm hK hc (FU_gt (by omega))

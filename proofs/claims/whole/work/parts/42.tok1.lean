/-! the text of the rules: bytes, runs of signs, tokens; the class's tokens -/
theorem gsi_2 (S : GS) (k j : Nat) (x y : Int32) : gsi (gsi S k j x) k j y = gsi S k j y := by
  unfold gsi
  congr 1
  funext a b
  by_cases h : a = k ∧ b = j
  · simp [h]
  · simp [h]
theorem gsi_0 {S : GS} {k j : Nat} {x : Int32} (h : S.1 k j = x) : gsi S k j x = S := by
  unfold gsi
  refine Prod.ext ?_ rfl
  funext a b
  by_cases q : a = k ∧ b = j
  · simp only [q, and_self, if_true]; exact h.symm
  · simp only [q, if_false]
theorem gsi_3 (S : GS) (k : Nat) {i j : Nat} (h : i ≠ j) (x y z : Int32) : gsi (gsi (gsi S k i x) k j y) k i z = gsi (gsi S k j y) k i z := by
  unfold gsi
  congr 1
  funext a b
  by_cases h1 : a = k ∧ b = i
  · simp [h1]
  · by_cases h2 : a = k ∧ b = j
    · simp [h2, fun e : j = i => h e.symm]
    · simp [h1, h2]
/-- a frame: what is written lies in w -/
def Wr (w : Nat → Nat → Bool) (S S' : GS) : Prop := S'.2 = S.2 ∧ ∀ k j, w k j = false → S'.1 k j = S.1 k j
theorem Wr.rf {w : Nat → Nat → Bool} {S : GS} : Wr w S S := ⟨rfl, fun _ _ _ => rfl⟩
theorem Wr.tr {w : Nat → Nat → Bool} {S S1 S2 : GS} (h : Wr w S S1) (h2 : Wr w S1 S2) : Wr w S S2 := ⟨h2.1.trans h.1, fun k j q => (h2.2 k j q).trans (h.2 k j q)⟩
theorem Wr.si {w : Nat → Nat → Bool} {S S' : GS} (h : Wr w S S') {k j : Nat} (hw : w k j = true) (x : Int32) : Wr w S (gsi S' k j x) := by
  refine ⟨h.1, fun a b q => ?_⟩
  rw [gsi_r, if_neg (by rintro ⟨rfl, rfl⟩; rw [hw] at q; cases q)]
  exact h.2 a b q
theorem Wr.mo {w w' : Nat → Nat → Bool} {S S' : GS} (h : Wr w S S') (hw : ∀ k j, w k j = true → w' k j = true) : Wr w' S S' := by
  refine ⟨h.1, fun k j q => h.2 k j ?_⟩
  cases z : w k j
  · rfl
  · rw [hw k j z] at q; cases q
def wT (k j : Nat) : Bool := k == 32 && (decide (2 ≤ j) && decide (j ≤ 5))
def wN (k j : Nat) : Bool := k == 54 && (decide (14 ≤ j) && decide (j ≤ 17))
def gby (v : Nat) : Int32 := if v < 128 then nI v else nI v - nI 256
theorem gby_all : ∀ v, v < 256 → (Int8.ofNat v).toInt32 = gby v ∧ gby v &&& 255 = nI v ∧ (gby v).toInt = (if v < 128 then (v : Int) else (v : Int) - 256) := by decide +kernel
theorem gby_of {b : Int32} (h : gNar b) : ∃ v, v < 256 ∧ b = gby v ∧ b &&& 255 = nI v := by
  have hv : b.toInt8.toBitVec.toNat < 256 := b.toInt8.toBitVec.isLt
  have e : Int8.ofNat b.toInt8.toBitVec.toNat = b.toInt8 := by
    apply Int8.toBitVec_inj.1
    show BitVec.ofNat 8 b.toInt8.toBitVec.toNat = _
    simp
  obtain ⟨h1, h2, -⟩ := gby_all _ hv
  rw [e] at h1
  unfold gNar at h
  rw [h] at h1
  exact ⟨_, hv, h1, by rw [← h2, ← h1]⟩
theorem gby_i {v : Nat} (h : v < 256) : (gby v).toInt = (if v < 128 then (v : Int) else (v : Int) - 256) := (gby_all v h).2.2
theorem gby_eq {v c : Nat} (h : v < 256) (hc : c < 128) : gby v = nI c ↔ v = c := by
  rw [fa_eq, gby_i h, nI_toInt (by omega)]
  by_cases z : v < 128
  · rw [if_pos z]; omega
  · rw [if_neg z]; omega
theorem gby_lt {v c : Nat} (h : v < 256) (hc : c < 128) : gby v < nI c ↔ (128 ≤ v ∨ v < c) := by
  rw [fa_lt, gby_i h, nI_toInt (by omega)]
  by_cases z : v < 128
  · rw [if_pos z]; omega
  · rw [if_neg z]; omega
theorem gby_gt {v c : Nat} (h : v < 256) (hc : c < 128) : nI c < gby v ↔ (v < 128 ∧ c < v) := by
  rw [fa_lt, gby_i h, nI_toInt (by omega)]
  by_cases z : v < 128
  · rw [if_pos z]; omega
  · rw [if_neg z]; omega
def cB (v : Nat) : Bool := decide (v = 10) || decide (v = 32)
def cL (v : Nat) : Bool := decide (97 ≤ v) && decide (v ≤ 122)
def cD (v : Nat) : Bool := decide (48 ≤ v) && decide (v ≤ 57)
def gRn (p : Nat → Bool) (u : Nat → Nat) (n q : Nat) : Nat := if _h : q < n ∧ p (u q) = true then gRn p u n (q + 1) else q
termination_by n - q
def gNv (u : Nat → Nat) (n q v : Nat) : Nat := if _h : q < n ∧ cD (u q) = true then gNv u n (q + 1) (if v ≤ 9999 then v * 10 + (u q - 48) else v) else v
termination_by n - q
theorem gRn_pos {p : Nat → Bool} {u : Nat → Nat} {n q : Nat} (h : q < n) (h2 : p (u q) = true) : gRn p u n q = gRn p u n (q + 1) := by rw [gRn, dif_pos ⟨h, h2⟩]
theorem gRn_neg {p : Nat → Bool} {u : Nat → Nat} {n q : Nat} (h : ¬ (q < n ∧ p (u q) = true)) : gRn p u n q = q := by rw [gRn, dif_neg h]
theorem gNv_pos {u : Nat → Nat} {n q v : Nat} (h : q < n) (h2 : cD (u q) = true) : gNv u n q v = gNv u n (q + 1) (if v ≤ 9999 then v * 10 + (u q - 48) else v) := by rw [gNv, dif_pos ⟨h, h2⟩]
theorem gNv_neg {u : Nat → Nat} {n q v : Nat} (h : ¬ (q < n ∧ cD (u q) = true)) : gNv u n q v = v := by rw [gNv, dif_neg h]
theorem gRn_rng {p : Nat → Bool} {u : Nat → Nat} {n : Nat} : ∀ d q, n - q ≤ d → q ≤ gRn p u n q ∧ (q ≤ n → gRn p u n q ≤ n) ∧ (gRn p u n q < n → p (u (gRn p u n q)) = false)
  | 0, q, h => by
    rw [gRn_neg (fun z => by omega)]
    exact ⟨Nat.le_refl _, fun z => z, fun z => by omega⟩
  | d + 1, q, h => by
    by_cases c : q < n ∧ p (u q) = true
    · rw [gRn_pos c.1 c.2]
      obtain ⟨h1, h2, h3⟩ := gRn_rng (p := p) (u := u) (n := n) d (q + 1) (by omega)
      exact ⟨by omega, fun _ => h2 (by omega), h3⟩
    · rw [gRn_neg c]
      exact ⟨Nat.le_refl _, fun z => z, fun z => by
        cases e : p (u q)
        · rfl
        · exact absurd ⟨z, e⟩ c⟩
theorem gRn_ge (p : Nat → Bool) (u : Nat → Nat) (n q : Nat) : q ≤ gRn p u n q := (gRn_rng (n - q) q (Nat.le_refl _)).1
theorem gRn_le {p : Nat → Bool} {u : Nat → Nat} {n q : Nat} (h : q ≤ n) : gRn p u n q ≤ n := (gRn_rng (n - q) q (Nat.le_refl _)).2.1 h
theorem gRn_st {p : Nat → Bool} {u : Nat → Nat} {n q : Nat} (h : gRn p u n q < n) : p (u (gRn p u n q)) = false := (gRn_rng (n - q) q (Nat.le_refl _)).2.2 h
theorem gNv_le {u : Nat → Nat} {n : Nat} : ∀ d q v, n - q ≤ d → v ≤ 99999 → gNv u n q v ≤ 99999
  | 0, q, v, h, hv => by rw [gNv_neg (fun z => by omega)]; exact hv
  | d + 1, q, v, h, hv => by
    by_cases c : q < n ∧ cD (u q) = true
    · rw [gNv_pos c.1 c.2]
      refine gNv_le d (q + 1) _ (by omega) ?_
      have : 48 ≤ u q ∧ u q ≤ 57 := by simpa [cD] using c.2
      by_cases z : v ≤ 9999
      · rw [if_pos z]; omega
      · rw [if_neg z]; exact hv
    · rw [gNv_neg c]; exact hv
/-- the class's text and place -/
def TkX (S : GS) (u : Nat → Nat) (n q : Nat) : Prop := S.2.2 4 = 1 ∧ S.1 32 1 = nI n ∧ S.1 32 2 = nI q ∧ q ≤ n ∧ n ≤ 400 ∧ ∀ i, i < n → u i < 256 ∧ S.1 1 i = gby (u i)
section
variable {S : GS} {u : Nat → Nat} {n q : Nat}
theorem TkX.at (h : TkX S u n q) (hq : q < n) : ¬ S.1 32 1 ≤ S.1 32 2 ∧ gk (S.2.2 4) = 13 ∧ gib (S.1 32 2) (gn (S.2.2 4)) = true ∧ S.1 (S.2.2 4) (S.1 32 2).toNatClampNeg = gby (u q) ∧ u q < 256 := by
  obtain ⟨h1, h2, h3, h4, h5, h6⟩ := h
  rw [h1, h2, h3, nI_clamp (show q < 2 ^ 31 by omega)]
  refine ⟨nI_ge hq (by omega), rfl, ?_, (h6 q hq).2, (h6 q hq).1⟩
  show gib (nI q) 400 = true
  exact gib_nI (by omega) (by decide)
theorem TkX.en (h : TkX S u n q) (hq : ¬ q < n) : S.1 32 1 ≤ S.1 32 2 := by
  obtain ⟨h1, h2, h3, h4, h5, h6⟩ := h
  rw [h2, h3]
  exact nI_le (by omega) (by omega)
theorem TkX.fr (h : TkX S u n q) {S' : GS} (e : S'.2.2 4 = 1) (e1 : S'.1 32 1 = S.1 32 1) {q' : Nat} (e2 : S'.1 32 2 = nI q') (hq : q' ≤ n) (e3 : ∀ i, i < n → S'.1 1 i = S.1 1 i) : TkX S' u n q' := by
  obtain ⟨h1, h2, h3, h4, h5, h6⟩ := h
  exact ⟨e, e1.trans h2, e2, hq, h5, fun i hi => ⟨(h6 i hi).1, (e3 i hi).trans (h6 i hi).2⟩⟩
theorem TkX.nx (h : TkX S u n q) {q' : Nat} (hq : q' ≤ n) : TkX (gsi S 32 2 (nI q')) u n q' := h.fr (S' := gsi S 32 2 (nI q')) h.1 (by simp [gsi_r]) (by simp [gsi_r]) hq (fun i _ => by simp [gsi_r])
theorem TkX.ot (h : TkX S u n q) {j : Nat} (hj : 3 ≤ j) (x : Int32) : TkX (gsi S 32 j x) u n q := h.fr (S' := gsi S 32 j x) h.1 (by rw [gsi_r, if_neg (by omega)]) (by rw [gsi_r, if_neg (by omega)]; exact h.2.2.1) h.2.2.2.1 (fun i _ => by simp [gsi_r])
end
theorem x_blank {u : Nat → Nat} {n : Nat} : ∀ k S q, TkX S u n q → n - q < k → fX8_advance_0 k S = fX8_advance_52 (gsi S 32 2 (nI (gRn cB u n q)))
  | 0, _, _, _, h => absurd h (Nat.not_lt_zero _)
  | k + 1, S, q, h, hk => by
    rw [fX8_advance_0]
    by_cases hq : q < n
    · obtain ⟨a1, a2, a3, a4, a5⟩ := h.at hq
      have st : cB (u q) = true → fX8_advance_39 (fX8_advance_0 k) S = fX8_advance_52 (gsi S 32 2 (nI (gRn cB u n q))) := by
        intro hc
        unfold fX8_advance_39
        rw [glet_s, h.2.2.1, nI_1, x_blank k _ (q + 1) (h.nx (by omega)) (by omega), gsi_2, gRn_pos hq hc]
      rw [if_neg a1, if_pos a2, if_pos a3, a4]
      by_cases c1 : u q = 10
      · rw [if_pos (show gby (u q) = (10 : Int32) from (gby_eq a5 (c := 10) (by decide)).mpr c1), st (by simp [cB, c1])]
      rw [if_neg (show ¬ gby (u q) = (10 : Int32) from fun z => c1 ((gby_eq a5 (c := 10) (by decide)).mp z))]
      by_cases c2 : u q = 32
      · rw [if_pos (show gby (u q) = (32 : Int32) from (gby_eq a5 (c := 32) (by decide)).mpr c2), st (by simp [cB, c2])]
      · rw [if_neg (show ¬ gby (u q) = (32 : Int32) from fun z => c2 ((gby_eq a5 (c := 32) (by decide)).mp z)), gRn_neg (by simp [cB, c1, c2]), gsi_0 h.2.2.1]
    · rw [if_pos (h.en hq), gRn_neg (fun z => hq z.1), gsi_0 h.2.2.1]
theorem x_letters {u : Nat → Nat} {n : Nat} : ∀ k S q, TkX S u n q → n - q < k → fX8_takeWord_0 k S = fX8_takeWord_52 (gsi S 32 2 (nI (gRn cL u n q)))
  | 0, _, _, _, h => absurd h (Nat.not_lt_zero _)
  | k + 1, S, q, h, hk => by
    rw [fX8_takeWord_0]
    by_cases hq : q < n
    · obtain ⟨a1, a2, a3, a4, a5⟩ := h.at hq
      rw [if_neg a1, if_pos a2, if_pos a3, a4]
      by_cases c1 : gby (u q) < (97 : Int32)
      · have := (gby_lt a5 (c := 97) (by decide)).mp c1
        rw [if_pos c1, gRn_neg (by simp [cL]; omega), gsi_0 h.2.2.1]
      rw [if_neg c1]
      by_cases c2 : (122 : Int32) < gby (u q)
      · have := (gby_gt a5 (c := 122) (by decide)).mp c2
        rw [if_pos c2, gRn_neg (by simp [cL]; omega), gsi_0 h.2.2.1]
      rw [if_neg c2, glet_s, h.2.2.1, nI_1, x_letters k _ (q + 1) (h.nx (by omega)) (by omega), gsi_2, gRn_pos hq]
      have b1 : ¬ (128 ≤ u q ∨ u q < 97) := fun z => c1 ((gby_lt a5 (c := 97) (by decide)).mpr z)
      have b2 : ¬ (u q < 128 ∧ 122 < u q) := fun z => c2 ((gby_gt a5 (c := 122) (by decide)).mpr z)
      simp [cL]; omega
    · rw [if_pos (h.en hq), gRn_neg (fun z => hq z.1), gsi_0 h.2.2.1]
theorem x_digits {u : Nat → Nat} {n : Nat} : ∀ k S q v, TkX S u n q → S.1 32 5 = nI v → v ≤ 99999 → n - q < k → fX8_takeNumber_5 k S = some ((), gsi (gsi (gsi S 32 2 (nI (gRn cD u n q))) 32 5 (nI (gNv u n q v))) 32 3 3)
  | 0, _, _, _, _, _, _, h => absurd h (Nat.not_lt_zero _)
  | k + 1, S, q, v, h, hv, hv9, hk => by
    rw [fX8_takeNumber_5]
    by_cases hq : q < n
    · obtain ⟨a1, a2, a3, a4, a5⟩ := h.at hq
      rw [if_neg a1, if_pos a2, if_pos a3, a4]
      by_cases c1 : gby (u q) < (48 : Int32)
      · have := (gby_lt a5 (c := 48) (by decide)).mp c1
        rw [if_pos c1, gRn_neg (by simp [cD]; omega), gNv_neg (by simp [cD]; omega), gsi_0 h.2.2.1, gsi_0 hv]
        rfl
      rw [if_neg c1]
      by_cases c2 : (57 : Int32) < gby (u q)
      · have := (gby_gt a5 (c := 57) (by decide)).mp c2
        rw [if_pos c2, gRn_neg (by simp [cD]; omega), gNv_neg (by simp [cD]; omega), gsi_0 h.2.2.1, gsi_0 hv]
        rfl
      rw [if_neg c2]
      have b1 : ¬ (128 ≤ u q ∨ u q < 48) := fun z => c1 ((gby_lt a5 (c := 48) (by decide)).mpr z)
      have b2 : ¬ (u q < 128 ∧ 57 < u q) := fun z => c2 ((gby_gt a5 (c := 57) (by decide)).mpr z)
      have hd : cD (u q) = true := by simp [cD]; omega
      have hd2 : 48 ≤ u q ∧ u q ≤ 57 := by simpa [cD] using hd
      have eb : gby (u q) = nI (u q) := if_pos (by omega)
      rw [gRn_pos hq hd, gNv_pos hq hd, hv]
      have go : ∀ (S1 : GS) (w : Nat), TkX S1 u n q → S1.1 32 5 = nI w → w ≤ 99999 → fX8_takeNumber_78 (fX8_takeNumber_5 k) S1 = some ((), gsi (gsi (gsi S1 32 2 (nI (gRn cD u n (q + 1)))) 32 5 (nI (gNv u n (q + 1) w))) 32 3 3) := by
        intro S1 w h1 h2 h3
        unfold fX8_takeNumber_78
        rw [glet_s, h1.2.2.1, nI_1, x_digits k _ (q + 1) w (h1.nx (by omega)) (by simp [gsi_r]; exact h2) h3 (by omega), gsi_2]
      by_cases c3 : v ≤ 9999
      · rw [if_neg (show ¬ (9999 : Int32) < nI v from nI_nlt (a := 9999) (b := v) c3 (by decide)), glet_s, if_pos c3, eb]
        have e1 : nI v * (10 : Int32) + (nI (u q) - (48 : Int32)) = nI (v * 10 + (u q - 48)) := by
          show nI v * nI 10 + (nI (u q) - nI 48) = _
          rw [pk_mul, pk_sub hd2.1, nI_add]
        rw [e1, go _ (v * 10 + (u q - 48)) (h.ot (by decide) _) (by simp [gsi_r]) (by omega)]
        rw [gsi_3 S 32 (by decide : (5 : Nat) ≠ 2)]
      · rw [if_pos (show (9999 : Int32) < nI v from nI_lt (a := 9999) (b := v) (by omega) (by omega)), if_neg c3]
        exact go S v h hv hv9
    · rw [if_pos (h.en hq), gRn_neg (fun z => hq z.1), gNv_neg (fun z => hq z.1), gsi_0 h.2.2.1, gsi_0 hv]
      rfl

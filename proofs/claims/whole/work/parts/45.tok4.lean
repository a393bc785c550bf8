/-! words and signs of the reference; a token of the reference -/
def gko : List Nat := [0, 6, 16, 23, 26, 30, 34, 39, 43, 48, 53, 59, 65, 69, 77]
def gkw : List Nat := [13, 14, 15, 4, 3, 2, 5, 6, 7, 8, 9, 10, 11, 12]
theorem gkw_all : ∀ j, j < 14 → gkw.getD j 0 < 16 ∧ 2 ≤ gkw.getD j 0 ∧ gko.getD (j + 1) 0 = gko.getD j 0 + gsnL.getD (gkw.getD j 0) 0 + 1 ∧ gko.getD (j + 1) 0 ≤ 77 ∧ gsc 17 (gko.getD j 0 + gsnL.getD (gkw.getD j 0) 0) = 32 ∧ ∀ i, i < gsnL.getD (gkw.getD j 0) 0 → gsc 17 (gko.getD j 0 + i) = gsc (gkw.getD j 0) i ∧ gsc (gkw.getD j 0) i ≠ 32 := by decide +kernel
theorem gsc_nat : ∀ k, k < 16 → ∀ i, i < gsnL.getD k 0 → (gsc k i).toNatClampNeg < 128 ∧ nI (gsc k i).toNatClampNeg = gsc k i := by decide +kernel
theorem gsc_by {v k i : Nat} (h : v < 256) (hk : k < 16) (hi : i < gsnL.getD k 0) : (nI v = gsc k i) = (gby v = gsc k i) := by
  obtain ⟨h1, h2⟩ := gsc_nat k hk i hi
  rw [← h2]
  exact propext ((nI_eq (by omega) (by omega)).trans (gby_eq h h1).symm)
theorem m_char {S : GS} {i : Nat} (h : i < 77) : fJ0_charAt_5068e S 17 (nI i) = some (gsc 17 i) := by
  have g : gib (nI i) (gsnL.getD 17 0) = true := gib_nI (show i < 77 from h) (by decide)
  rw [fJ0_charAt_5068e, if_pos ⟨by decide, g⟩, nI_clamp (by omega)]
section
variable {S : GS} {u : Nat → Nat} {n q pl k0 kk : Nat} {k4 : GS → Int32 → Int32 → Option Int32} {a1 : Int32}
theorem m_word97 (h1 : k0 + gsnL.getD kk 0 < 77) (hs : gsc 17 (k0 + gsnL.getD kk 0) = 32) (hw : ∀ i, i < gsnL.getD kk 0 → gsc 17 (k0 + i) = gsc kk i ∧ gsc kk i ≠ 32) : ∀ d i f, i + d = gsnL.getD kk 0 → d < f → fX11_word_97 k4 f S a1 (nI (k0 + i)) = k4 S (a1 + 1) (nI (k0 + gsnL.getD kk 0 + 1)) := by
  intro d
  induction d with
  | zero =>
    intro i f hi hf
    obtain ⟨f, rfl⟩ := Nat.exists_eq_add_of_lt hf
    have : i = gsnL.getD kk 0 := by omega
    subst this
    rw [show 0 + f + 1 = f + 1 by omega, fX11_word_97, m_char h1, gbv_s, if_pos hs, glet_s, glet_s, nI_1]
  | succ d ih =>
    intro i f hi hf
    obtain ⟨f, rfl⟩ := Nat.exists_eq_add_of_lt hf
    obtain ⟨w1, w2⟩ := hw i (by omega)
    rw [show d + 1 + f + 1 = (d + 1 + f) + 1 from rfl, fX11_word_97, m_char (by omega), gbv_s, if_neg (by rw [w1]; exact w2), glet_s, nI_1, show k0 + i + 1 = k0 + (i + 1) by omega, ih (i + 1) _ (by omega) (by omega)]
theorem m_word15 (h : TkM S u n q) (hp : S.1 54 15 = nI pl) (hk : kk < 16) (h1 : k0 + gsnL.getD kk 0 < 77) (hs : gsc 17 (k0 + gsnL.getD kk 0) = 32) (hw : ∀ i, i < gsnL.getD kk 0 → gsc 17 (k0 + i) = gsc kk i ∧ gsc kk i ≠ 32) : ∀ d i f, i + d = gsnL.getD kk 0 → pl + i ≤ q → d < f → fX11_word_15 k4 f S a1 (nI k0) (nI i) = if gWl u (pl + i) (q - (pl + i)) = gWs kk i d then some a1 else k4 S (a1 + 1) (nI (k0 + gsnL.getD kk 0 + 1)) := by
  have no97 : fX11_word_97 k4 FU S a1 (nI k0) = k4 S (a1 + 1) (nI (k0 + gsnL.getD kk 0 + 1)) := m_word97 h1 hs hw (gsnL.getD kk 0) 0 FU (by omega) (FU_gt (by omega))
  have hn := h.2.2.2.1
  have hqn := h.2.2.1
  intro d
  induction d with
  | zero =>
    intro i f hi hq hf
    obtain ⟨f, rfl⟩ := Nat.exists_eq_add_of_lt hf
    have : i = gsnL.getD kk 0 := by omega
    subst this
    rw [show 0 + f + 1 = f + 1 by omega, fX11_word_15, nI_add, m_char h1, gbv_s, if_pos hs, fX11_word_69, nI_add, m_char h1, gbv_s, if_pos hs, hp, nI_add, h.2.1, no97, gWs]
    by_cases c : pl + gsnL.getD kk 0 = q
    · rw [if_pos (congrArg nI c), if_pos]
      rw [show q - (pl + gsnL.getD kk 0) = 0 by omega]
      rfl
    · rw [if_neg (fun z => c ((nI_eq (by omega) (by omega)).mp z)), if_neg]
      intro z
      have := congrArg List.length z
      rw [gWl_len] at this
      rw [List.length_nil] at this
      exact c (by omega)
  | succ d ih =>
    intro i f hi hq hf
    obtain ⟨f, rfl⟩ := Nat.exists_eq_add_of_lt hf
    obtain ⟨w1, w2⟩ := hw i (by omega)
    have n32 : ¬ gsc 17 (k0 + i) = 32 := by rw [w1]; exact w2
    have e69 : fX11_word_69 k4 S a1 (nI k0) (nI i) = k4 S (a1 + 1) (nI (k0 + gsnL.getD kk 0 + 1)) := by
      rw [fX11_word_69, nI_add, m_char (by omega), gbv_s, if_neg n32, no97]
    rw [show d + 1 + f + 1 = (d + 1 + f) + 1 from rfl, fX11_word_15, nI_add, m_char (by omega), gbv_s, if_neg n32, hp, h.2.1, nI_add, e69, gbv_s]
    by_cases c : q ≤ pl + i
    · rw [if_pos (nI_le c (by omega)), if_neg]
      rw [show q - (pl + i) = 0 by omega, gWs]
      intro z
      cases z
    · have hu := h.2.2.2.2 (pl + i) (by omega)
      rw [if_neg (nI_ge (by omega) (by omega)), if_pos (gib_nI (by omega) (by decide)), nI_clamp (by omega), hu.2, w1]
      obtain ⟨r, hr⟩ : ∃ r, q - (pl + i) = r + 1 := ⟨q - (pl + i) - 1, by omega⟩
      rw [hr, gWl, gWs]
      simp only [gsc_by hu.1 hk (show i < gsnL.getD kk 0 by omega)]
      by_cases c2 : gby (u (pl + i)) = gsc kk i
      · rw [if_pos c2, glet_s, nI_1, ih (i + 1) _ (by omega) (by omega) (by omega)]
        have er : q - (pl + (i + 1)) = r := by omega
        rw [er, show pl + (i + 1) = pl + i + 1 by omega]
        by_cases c3 : gWl u (pl + i + 1) r = gWs kk (i + 1) d
        · rw [if_pos c3, if_pos (by rw [c2, c3])]
        · rw [if_neg c3, if_neg (fun z => c3 (List.cons.inj z).2)]
      · rw [if_neg c2, if_neg (fun z => c2 (List.cons.inj z).1)]
end
def gMf (L : List Int32) : Nat → Nat → Int32
  | _, 0 => -1
  | j, d + 1 => if L = gWd (gkw.getD j 0) then nI j else gMf L (j + 1) d
theorem m_words {u : Nat → Nat} {n q pl : Nat} {S : GS} (h : TkM S u n q) (hp : S.1 54 15 = nI pl) (hpq : pl ≤ q) : ∀ d j f, j + d = 14 → d < f → fX11_word_4 f S (nI j) (nI (gko.getD j 0)) = some (gMf (gWl u pl (q - pl)) j d) := by
  intro d
  induction d with
  | zero =>
    intro j f hj hf
    obtain ⟨f, rfl⟩ := Nat.exists_eq_add_of_lt hf
    have : j = 14 := by omega
    subst this
    rw [show 0 + f + 1 = f + 1 by omega, fX11_word_4, fJ0_length_8abf5, if_pos (by decide), gbv_s, if_pos (by decide)]
    rfl
  | succ d ih =>
    intro j f hj hf
    obtain ⟨f, rfl⟩ := Nat.exists_eq_add_of_lt hf
    obtain ⟨t1, t1b, t2, t3, t4, t5⟩ := gkw_all j (by omega)
    have e77 : ¬ Int32.ofNat (gsnL.getD 17 0) ≤ nI (gko.getD j 0) := nI_ge (b := 77) (by omega) (by decide)
    rw [show d + 1 + f + 1 = (d + 1 + f) + 1 from rfl, fX11_word_4, fJ0_length_8abf5, if_pos (by decide), gbv_s, if_neg e77, glet_s, show (0 : Int32) = nI 0 from rfl, m_word15 h hp t1 (by omega) t4 t5 (gsnL.getD (gkw.getD j 0) 0) 0 FU (by omega) (by omega) (FU_gt (by omega)), (gWs_all _ (by omega)).1, ← t2, nI_1, ih (j + 1) _ (by omega) (by omega), gMf]
    by_cases c : gWl u pl (q - pl) = gWd (gkw.getD j 0)
    · rw [if_pos c, if_pos (by exact c)]
    · rw [if_neg c, if_neg (by exact c)]
theorem m_word {u : Nat → Nat} {n q pl : Nat} {S : GS} (h : TkM S u n q) (hp : S.1 54 15 = nI pl) (hpq : pl ≤ q) : fX11_word S = some (gMf (gWl u pl (q - pl)) 0 14) := by
  unfold fX11_word
  rw [glet_s, glet_s]
  exact m_words h hp hpq 14 0 FU rfl (FU_gt (by decide))
/-- the reference's number of a word -/
def kWv (t : Nat) : Nat := if t ≤ 19 then 22 - t else if t ≤ 27 then t - 14 else t - 28
theorem gW_in : ∀ k, k < 16 → 2 ≤ k → 17 ≤ gWk (gWd k) ∧ gWk (gWd k) ≤ 30 ∧ gMf (gWd k) 0 14 = nI (kWv (gWk (gWd k))) := by decide +kernel
theorem gWf_out {L : List Int32} (h : ∀ k, k < 16 → 2 ≤ k → L ≠ gWd k) : ∀ d t w, 17 ≤ w → w + d ≤ 31 → gWf L t w d = t
  | 0, t, w, _, _ => rfl
  | d + 1, t, w, h1, h2 => by rw [gWf, if_neg (h _ (by omega) (by omega)), gWf_out h d t (w + 1) (by omega) (by omega)]
theorem gMf_out {L : List Int32} (h : ∀ k, k < 16 → 2 ≤ k → L ≠ gWd k) : ∀ d j, j + d ≤ 14 → gMf L j d = -1
  | 0, j, _ => rfl
  | d + 1, j, h1 => by
    obtain ⟨t1, t2, -⟩ := gkw_all j (by omega)
    rw [gMf, if_neg (h _ t1 t2), gMf_out h d (j + 1) (by omega)]
theorem gW_rel (L : List Int32) : (gWk L = 2 ∧ gMf L 0 14 = -1) ∨ (17 ≤ gWk L ∧ gWk L ≤ 30 ∧ gMf L 0 14 = nI (kWv (gWk L))) := by
  by_cases c : ∃ k, k < 16 ∧ 2 ≤ k ∧ L = gWd k
  · obtain ⟨k, h1, h2, rfl⟩ := c
    exact Or.inr (gW_in k h1 h2)
  · have h : ∀ k, k < 16 → 2 ≤ k → L ≠ gWd k := fun k h1 h2 h3 => c ⟨k, h1, h2, h3⟩
    exact Or.inl ⟨gWf_out h 14 2 17 (by decide) (by decide), gMf_out h 14 0 (by decide)⟩
/-- sort and value of a token -/
def gSo (t : Nat) : Int32 := if t = 1 then 3 else if t = 2 then 4 else if t = 3 then 1 else if t ≤ 16 then 2 else 0
def gVl (t nb : Nat) : Int32 := if t = 3 then nI nb else if t = 4 then 59 else if t = 5 then 40 else if t = 6 then 41 else if t ≤ 16 then gSg t else nI (kWv t)
theorem m_280 {S : GS} {c q1 : Nat} (hc : c < 256) (h16 : S.1 54 16 = 2) (h17 : S.1 54 17 = nI c) : ∃ S', fX11_next_280 S (nI c) = some ((), S') ∧ Wr wN S S' ∧ S'.1 54 14 = S.1 54 14 ∧ S'.1 54 15 = S.1 54 15 ∧ S'.1 54 16 = gSo (kSn c) ∧ (3 ≤ kSn c → S'.1 54 17 = gVl (kSn c) 0) := by
  have e : ∀ m : Nat, m < 256 → (nI c = nI m) = (c = m) := fun m hm => propext (nI_eq (by omega) (by omega))
  have e59 : (nI c = (59 : Int32)) = (c = 59) := e 59 (by decide)
  have e45 : (nI c = (45 : Int32)) = (c = 45) := e 45 (by decide)
  have e43 : (nI c = (43 : Int32)) = (c = 43) := e 43 (by decide)
  have e42 : (nI c = (42 : Int32)) = (c = 42) := e 42 (by decide)
  have e47 : (nI c = (47 : Int32)) = (c = 47) := e 47 (by decide)
  have e40 : (nI c = (40 : Int32)) = (c = 40) := e 40 (by decide)
  have e41 : (nI c = (41 : Int32)) = (c = 41) := e 41 (by decide)
  have e60 : (nI c = (60 : Int32)) = (c = 60) := e 60 (by decide)
  have e61 : (nI c = (61 : Int32)) = (c = 61) := e 61 (by decide)
  have e62 : (nI c = (62 : Int32)) = (c = 62) := e 62 (by decide)
  unfold fX11_next_280
  rw [if_pos h17]
  simp only [e59, e45, e43, e42, e47, e40, e41, e60, e61, e62]
  have yes : ∀ m, c = m → gSo (kSn m) = 2 → gVl (kSn m) 0 = nI m → ∃ S', some ((), S) = some ((), S') ∧ Wr wN S S' ∧ S'.1 54 14 = S.1 54 14 ∧ S'.1 54 15 = S.1 54 15 ∧ S'.1 54 16 = gSo (kSn c) ∧ (3 ≤ kSn c → S'.1 54 17 = gVl (kSn c) 0) := by
    intro m hm h1 h2
    subst hm
    exact ⟨S, rfl, Wr.rf, rfl, rfl, h16.trans h1.symm, fun _ => h17.trans h2.symm⟩
  by_cases c1 : c = 59
  · rw [if_pos c1]; exact yes 59 c1 (by decide) (by decide)
  rw [if_neg c1]
  by_cases c2 : c = 45
  · rw [if_pos c2]; exact yes 45 c2 (by decide) (by decide)
  rw [if_neg c2]
  by_cases c3 : c = 43
  · rw [if_pos c3]; exact yes 43 c3 (by decide) (by decide)
  rw [if_neg c3]
  by_cases c4 : c = 42
  · rw [if_pos c4]; exact yes 42 c4 (by decide) (by decide)
  rw [if_neg c4]
  by_cases c5 : c = 47
  · rw [if_pos c5]; exact yes 47 c5 (by decide) (by decide)
  rw [if_neg c5]
  by_cases c6 : c = 40
  · rw [if_pos c6]; exact yes 40 c6 (by decide) (by decide)
  rw [if_neg c6]
  by_cases c7 : c = 41
  · rw [if_pos c7]; exact yes 41 c7 (by decide) (by decide)
  rw [if_neg c7]
  by_cases c8 : c = 60
  · rw [if_pos c8]; exact yes 60 c8 (by decide) (by decide)
  rw [if_neg c8]
  by_cases c9 : c = 61
  · rw [if_pos c9]; exact yes 61 c9 (by decide) (by decide)
  rw [if_neg c9]
  by_cases c10 : c = 62
  · rw [if_pos c10]; exact yes 62 c10 (by decide) (by decide)
  rw [if_neg c10, glet_s]
  have e2 : kSn c = 2 := by simp [kSn, c1, c2, c3, c4, c5, c6, c7, c8, c9, c10]
  rw [e2]
  exact ⟨_, rfl, Wr.rf.si rfl _, by simp [gsi_r], by simp [gsi_r], by simp [gsi_r, gSo], fun z => by omega⟩
theorem m_dbl {S : GS} {c q1 : Nat} {x : Int32} (hx : ¬ x = nI c) (h14 : S.1 54 14 = nI q1) : ∃ S', fX11_next_280 (gsi S 54 17 x) (nI c) = some ((), S') ∧ Wr wN S S' ∧ S'.1 54 14 = nI (q1 + 1) ∧ S'.1 54 15 = S.1 54 15 ∧ S'.1 54 16 = S.1 54 16 ∧ S'.1 54 17 = x := by
  unfold fX11_next_280
  rw [show (gsi S 54 17 x).1 54 17 = x by simp [gsi_r], if_neg hx, glet_s, show (gsi S 54 17 x).1 54 14 = nI q1 by simp [gsi_r]; exact h14, nI_1]
  exact ⟨_, rfl, (Wr.rf.si rfl _).si rfl _, by simp [gsi_r], by simp [gsi_r], by simp [gsi_r], by simp [gsi_r]⟩
def mSg (S : GS) (r9 : Int32) : Option (Unit × GS) := (if r9 = (60 : Int32) then gbv (fX11_here S) fun r22 => (if r22 = (61 : Int32) then glet (gsi S 54 17 (256 : Int32)) fun S24 => (fX11_next_280 S24 r9) else (fX11_next_233 S r9)) else (fX11_next_233 S r9))
theorem m_sg {S : GS} {c d q1 : Nat} {hr : Int32} (hc : c < 256) (hh : fX11_here S = some hr) (h61 : hr = nI 61 ↔ d = 61) (h62 : hr = nI 62 ↔ d = 62) (h16 : S.1 54 16 = 2) (h17 : S.1 54 17 = nI c) (h14 : S.1 54 14 = nI q1) : ∃ S', mSg S (nI c) = some ((), S') ∧ Wr wN S S' ∧ S'.1 54 14 = nI (q1 + if kDb c d then 1 else 0) ∧ S'.1 54 15 = S.1 54 15 ∧ S'.1 54 16 = gSo (kT2 c d) ∧ (3 ≤ kT2 c d → S'.1 54 17 = gVl (kT2 c d) 0) := by
  have e60 : (nI c = (60 : Int32)) = (c = 60) := propext (nI_eq (b := 60) (by omega) (by decide))
  have e62 : (nI c = (62 : Int32)) = (c = 62) := propext (nI_eq (b := 62) (by omega) (by decide))
  have f61 : (hr = (61 : Int32)) = (d = 61) := propext h61
  have f62 : (hr = (62 : Int32)) = (d = 62) := propext h62
  have one : kDb c d = false → kT2 c d = kSn c → ∃ S', fX11_next_280 S (nI c) = some ((), S') ∧ Wr wN S S' ∧ S'.1 54 14 = nI (q1 + if kDb c d then 1 else 0) ∧ S'.1 54 15 = S.1 54 15 ∧ S'.1 54 16 = gSo (kT2 c d) ∧ (3 ≤ kT2 c d → S'.1 54 17 = gVl (kT2 c d) 0) := by
    intro h1 h2
    obtain ⟨S', b1, b2, b3, b4, b5, b6⟩ := m_280 (S := S) (q1 := q1) hc h16 h17
    rw [h1, h2]
    exact ⟨S', b1, b2, b3.trans h14, b4, b5, b6⟩
  have two : ∀ x : Int32, kDb c d = true → ¬ x = nI c → gSo (kT2 c d) = 2 → gVl (kT2 c d) 0 = x → ∃ S', fX11_next_280 (gsi S 54 17 x) (nI c) = some ((), S') ∧ Wr wN S S' ∧ S'.1 54 14 = nI (q1 + if kDb c d then 1 else 0) ∧ S'.1 54 15 = S.1 54 15 ∧ S'.1 54 16 = gSo (kT2 c d) ∧ (3 ≤ kT2 c d → S'.1 54 17 = gVl (kT2 c d) 0) := by
    intro x h1 h2 h3 h4
    obtain ⟨S', b1, b2, b3, b4, b5, b6⟩ := m_dbl (S := S) (q1 := q1) h2 h14
    rw [h1, h3, h4]
    exact ⟨S', b1, b2, b3, b4, b5.trans h16, fun _ => b6⟩
  unfold mSg fX11_next_233 fX11_next_258
  rw [hh]
  simp only [gbv_s, glet_s, e60, e62, f61, f62]
  by_cases c1 : c = 60
  · rw [if_pos c1, if_pos c1]
    by_cases d1 : d = 61
    · rw [if_pos d1]
      exact two 256 (by simp [kDb, c1, d1]) (by rw [c1]; decide) (by rw [c1, d1]; decide) (by rw [c1, d1]; decide)
    rw [if_neg d1]
    by_cases d2 : d = 62
    · rw [if_pos d2]
      exact two 257 (by simp [kDb, c1, d2]) (by rw [c1]; decide) (by rw [c1, d2]; decide) (by rw [c1, d2]; decide)
    rw [if_neg d2, if_neg (by omega)]
    exact one (by simp [kDb, c1, d1, d2]) (by simp [kT2, d1, d2])
  · rw [if_neg c1, if_neg c1]
    by_cases c2 : c = 62
    · rw [if_pos c2]
      by_cases d1 : d = 61
      · rw [if_pos d1]
        exact two 258 (by simp [kDb, c2, d1]) (by rw [c2]; decide) (by rw [c2, d1]; decide) (by rw [c2, d1]; decide)
      rw [if_neg d1]
      exact one (by simp [kDb, c2, d1]) (by simp [kT2, c1, d1])
    rw [if_neg c2]
    exact one (by simp [kDb, c1, c2]) (by simp [kT2, c1, c2])
theorem gVl_ne {t : Nat} (h : t ≠ 3) (a b : Nat) : gVl t a = gVl t b := by unfold gVl; rw [if_neg h, if_neg h]
theorem m_next {u : Nat → Nat} {n q : Nat} {S : GS} (h : TkM S u n q) : ∃ S', fX11_next S = some ((), S') ∧ Wr wN S S' ∧ S'.1 54 14 = nI (kTq u n q) ∧ S'.1 54 15 = nI (kTp u n q) ∧ S'.1 54 16 = gSo (kTt u n q) ∧ (3 ≤ kTt u n q → S'.1 54 17 = gVl (kTt u n q) (kTn u n q)) := by
  have hn := h.2.2.2.1
  unfold fX11_next
  rw [m_blank FU S q h (FU_gt (by omega))]
  have hp : kTp u n q ≤ n := gRn_le h.2.2.1
  unfold kTq kTt kTn
  change ∃ S', mNx (gsi S 54 14 (nI (kTp u n q))) = _ ∧ _
  generalize kTp u n q = p at hp ⊢
  unfold mNx
  obtain ⟨S1, e1⟩ : ∃ y, y = gsi (gsi S 54 14 (nI p)) 54 15 (nI p) := ⟨_, rfl⟩
  have f1 : Wr wN S S1 := by rw [e1]; exact (Wr.rf.si rfl _).si rfl _
  have t1 : TkM S1 u n p := by rw [e1]; exact (h.nx hp).ot (by decide) _
  have p1 : S1.1 54 15 = nI p := by rw [e1]; simp [gsi_r]
  rw [show (gsi S 54 14 (nI p)).1 54 14 = nI p by simp [gsi_r], glet_s, ← e1, m_here t1, gbv_s]
  by_cases hq : p < n
  · have eh : gHr u n p = nI (u p) := if_pos hq
    have hu := (t1.2.2.2.2 p hq).1
    have nm1 : ∀ x : Nat, x < 1000 → ¬ nI x = (-1 : Int32) := by
      intro x hx z
      rw [fa_eq, nI_toInt (by omega)] at z
      have : (-1 : Int32).toInt = -1 := by decide
      omega
    rw [if_neg (show ¬ gHr u n p = (-1 : Int32) by rw [eh]; exact nm1 _ (by omega)), m_small t1, gbv_s, decide_eq_true hq, Bool.true_and, if_pos hq, if_pos hq]
    cases hl : cL (u p)
    · rw [if_pos (show gz false = 0 by decide), m_digit t1, gbv_s, decide_eq_true hq, Bool.true_and, if_neg (show ¬ (false = true) by decide), if_neg (show ¬ (false = true) by decide)]
      cases hd : cD (u p)
      · rw [if_pos (show gz false = 0 by decide), if_neg (show ¬ (false = true) by decide), if_neg (show ¬ (false = true) by decide), t1.2.1, nI_1, glet_s, glet_s, glet_s, eh]
        obtain ⟨S2, e2⟩ : ∃ y, y = gsi (gsi (gsi S1 54 14 (nI (p + 1))) 54 16 2) 54 17 (nI (u p)) := ⟨_, rfl⟩
        have f2 : Wr wN S1 S2 := by rw [e2]; exact ((Wr.rf.si rfl _).si rfl _).si rfl _
        have t2 : TkM S2 u n (p + 1) := by rw [e2]; exact ((t1.nx (by omega)).ot (by decide) _).ot (by decide) _
        rw [← e2]
        change ∃ S', mSg S2 (nI (u p)) = _ ∧ _
        obtain ⟨S', b1, b2, b3, b4, b5, b6⟩ := m_sg (S := S2) (d := gNx u n (p + 1)) (q1 := p + 1) hu (m_here t2) (gHr_eq t2 (by decide)) (gHr_eq t2 (by decide)) (by rw [e2]; simp [gsi_r]) (by rw [e2]; simp [gsi_r]) t2.2.1
        refine ⟨S', b1, f1.tr (f2.tr b2), b3, ?_, b5, fun z => (b6 z).trans (gVl_ne (kT2_ne _ _) _ _)⟩
        rw [b4, ← p1, e2]; simp [gsi_r]
      · rw [if_neg (show ¬ gz true = 0 by decide), if_pos rfl, if_pos rfl, glet_s, glet_s, m_digits FU _ p 0 ((t1.ot (by decide) _).ot (by decide) _) (by simp [gsi_r]; rfl) (by decide) (FU_gt (by omega))]
        exact ⟨_, rfl, f1.tr ((((Wr.rf.si rfl _).si rfl _).si rfl _).si rfl _), by simp [gsi_r], by simp [gsi_r]; exact p1, by simp [gsi_r, gSo], fun _ => by simp [gsi_r, gVl]⟩
    · rw [if_neg (show ¬ gz true = 0 by decide), if_pos rfl, if_pos rfl, m_letters FU S1 p t1 (FU_gt (by omega))]
      unfold mWd
      have t2 := t1.nx (q' := gRn cL u n p) (gRn_le t1.2.2.1)
      rw [m_word t2 (pl := p) (by simp [gsi_r]; exact p1) (gRn_ge cL u n p), gbv_s, glet_s]
      rw [show (gsi (gsi S1 54 14 (nI (gRn cL u n p))) 54 17 (gMf (gWl u p (gRn cL u n p - p)) 0 14)).1 54 17 = gMf (gWl u p (gRn cL u n p - p)) 0 14 by simp [gsi_r]]
      rcases gW_rel (gWl u p (gRn cL u n p - p)) with ⟨w1, w2⟩ | ⟨w1, w2, w3⟩
      · rw [w2, if_pos rfl, glet_s, w1]
        exact ⟨_, rfl, f1.tr (((Wr.rf.si rfl _).si rfl _).si rfl _), by simp [gsi_r], by simp [gsi_r]; exact p1, by simp [gsi_r, gSo], fun z => by omega⟩
      · have hw : kWv (gWk (gWl u p (gRn cL u n p - p))) < 100 := by
          unfold kWv
          repeat' split
          all_goals omega
        rw [w3, if_neg (nm1 _ (by omega)), glet_s]
        generalize gWk (gWl u p (gRn cL u n p - p)) = t at w1 w2 ⊢
        refine ⟨_, rfl, f1.tr (((Wr.rf.si rfl _).si rfl _).si rfl _), by simp [gsi_r], by simp [gsi_r]; exact p1, ?_, fun _ => ?_⟩
        · simp [gsi_r, gSo, show ¬ t = 1 by omega, show ¬ t = 2 by omega, show ¬ t = 3 by omega, show ¬ t ≤ 16 by omega]
        · simp [gsi_r, gVl, show ¬ t = 3 by omega, show ¬ t = 4 by omega, show ¬ t = 5 by omega, show ¬ t = 6 by omega, show ¬ t ≤ 16 by omega]
  · rw [if_pos (show gHr u n p = (-1 : Int32) from if_neg hq), glet_s, if_neg hq, if_neg hq]
    exact ⟨_, rfl, f1.si rfl _, by simp [gsi_r]; exact t1.2.1, by simp [gsi_r]; exact p1, by simp [gsi_r, gSo], fun z => by omega⟩

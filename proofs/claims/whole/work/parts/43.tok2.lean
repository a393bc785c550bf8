/-! words and signs; a token of the class -/
def gS0 : GS := (fun _ _ => 0, fun _ _ => 0, fun _ => 0)
def gWl (u : Nat → Nat) : Nat → Nat → List Int32
  | _, 0 => []
  | p, d + 1 => gby (u p) :: gWl u (p + 1) d
def gWs (k : Nat) : Nat → Nat → List Int32
  | _, 0 => []
  | i, d + 1 => gsc k i :: gWs k (i + 1) d
abbrev gWd (k : Nat) : List Int32 := gsbL.getD k []
theorem gWl_len (u : Nat → Nat) : ∀ d p, (gWl u p d).length = d
  | 0, _ => rfl
  | d + 1, p => by rw [gWl, List.length_cons, gWl_len u d]
theorem gWs_all : ∀ k, k < 18 → gWs k 0 (gsnL.getD k 0) = gWd k ∧ (gWd k).length = gsnL.getD k 0 ∧ gsnL.getD k 0 < 100 := by decide +kernel
theorem dec_cons {a b : Int32} {l m : List Int32} (h : a = b) : decide (a :: l = b :: m) = decide (l = m) := by
  subst h
  by_cases z : l = m <;> simp [z]
theorem x_spelt_loop {u : Nat → Nat} {n q pl k : Nat} {S : GS} (h : TkX S u n q) (hp : S.1 32 4 = nI pl) (hk : k < 18) (hl : pl + gsnL.getD k 0 ≤ n) : ∀ d i f, i + d = gsnL.getD k 0 → d < f → fX8_isSpelt_20 f S k (nI i) = some (gz (decide (gWl u (pl + i) d = gWs k i d))) := by
  have h9 := (gWs_all k hk).2.2
  intro d
  induction d with
  | zero =>
    intro i f hi hf
    obtain ⟨f, rfl⟩ := Nat.exists_eq_add_of_lt hf
    rw [show 0 + f + 1 = f + 1 by omega, fX8_isSpelt_20, fJ0_length_8abf5, if_pos hk, gbv_s, if_pos (show Int32.ofNat (gsnL.getD k 0) ≤ nI i from nI_le (by omega) (by omega))]
    rfl
  | succ d ih =>
    intro i f hi hf
    obtain ⟨f, rfl⟩ := Nat.exists_eq_add_of_lt hf
    have hn := h.2.2.2.2.1
    have e4 : nI pl + nI i = nI (pl + i) := nI_add _ _
    have g4 : gib (nI (pl + i)) (gn 1) = true := gib_nI (show pl + i < 400 by omega) (by decide)
    have ch : fJ0_charAt_5068e S k (nI i) = some (gsc k i) := by
      rw [fJ0_charAt_5068e, if_pos ⟨hk, gib_nI (by omega) (by omega)⟩, nI_clamp (by omega)]
    rw [show d + 1 + f + 1 = (d + 1 + f) + 1 from rfl, fX8_isSpelt_20, fJ0_length_8abf5, if_pos hk, gbv_s, if_neg (show ¬ Int32.ofNat (gsnL.getD k 0) ≤ nI i from nI_ge (by omega) (by omega)), h.1, if_pos (show gk 1 = 13 from rfl), hp, e4, if_pos g4, ch, gbv_s, nI_clamp (show pl + i < 2 ^ 31 by omega), (h.2.2.2.2.2 (pl + i) (by omega)).2]
    by_cases c : gby (u (pl + i)) = gsc k i
    · rw [if_pos c, glet_s, nI_1, ih (i + 1) _ (by omega) (by omega), gWl, gWs, dec_cons c]
      rfl
    · rw [if_neg c, gWl, gWs, decide_eq_false (fun z => c (List.cons.inj z).1)]
      rfl
theorem x_spelt {u : Nat → Nat} {n q pl k : Nat} {S : GS} (h : TkX S u n q) (hp : S.1 32 4 = nI pl) (hpq : pl ≤ q) (hk : k < 18) : fX8_isSpelt S k = some (gz (decide (gWl u pl (q - pl) = gWd k))) := by
  obtain ⟨w1, w2, w3⟩ := gWs_all k hk
  have hn := h.2.2.2.2.1
  have hq := h.2.2.2.1
  unfold fX8_isSpelt
  rw [fJ0_length_8abf5, if_pos hk, gbv_s, h.2.2.1, hp, pk_sub hpq]
  by_cases c : gsnL.getD k 0 = q - pl
  · rw [if_pos (show Int32.ofNat (gsnL.getD k 0) = nI (q - pl) from congrArg nI c), glet_s, show (0 : Int32) = nI 0 from rfl, x_spelt_loop h hp hk (by omega) (gsnL.getD k 0) 0 FU (by omega) (FU_gt (by omega)), w1, ← c]
    rfl
  · rw [if_neg (show ¬ Int32.ofNat (gsnL.getD k 0) = nI (q - pl) from fun z => c ((nI_eq (by omega) (by omega)).mp z)), decide_eq_false (fun z => c (by rw [← w2, ← z, gWl_len]))]
    rfl
theorem x_wordOf_all : ∀ w, w < 31 → 17 ≤ w → fX8_wordOf gS0 (nI w) = some (w - 15) := by decide +kernel
theorem x_wordOf {S : GS} {w : Nat} (h : w < 31) (h2 : 17 ≤ w) : fX8_wordOf S (nI w) = some (w - 15) := by
  show fX8_wordOf gS0 (nI w) = some (w - 15)
  exact x_wordOf_all w h h2
def gWf (L : List Int32) : Nat → Nat → Nat → Nat
  | t, _, 0 => t
  | t, w, d + 1 => gWf L (if L = gWd (w - 15) then w else t) (w + 1) d
def gWk (L : List Int32) : Nat := gWf L 2 17 14
theorem gWf_ne {L : List Int32} : ∀ d t w, t ≠ 3 → 17 ≤ w → gWf L t w d ≠ 3
  | 0, t, w, h, _ => h
  | d + 1, t, w, h, hw => by
    rw [gWf]
    refine gWf_ne d _ _ ?_ (by omega)
    by_cases c : L = gWd (w - 15)
    · rw [if_pos c]; omega
    · rw [if_neg c]; exact h
theorem x_words {u : Nat → Nat} {n q pl : Nat} (hpq : pl ≤ q) : ∀ d w t S f, w + d = 31 → 17 ≤ w → d < f → TkX S u n q → S.1 32 4 = nI pl → S.1 32 3 = nI t → fX8_takeWord_60 f S (nI w) = some ((), gsi S 32 3 (nI (gWf (gWl u pl (q - pl)) t w d)))
  | _, _, _, _, 0, _, _, hf, _, _, _ => absurd hf (Nat.not_lt_zero _)
  | 0, w, t, S, f + 1, h1, h2, hf, h, hp, h3 => by
    rw [fX8_takeWord_60, if_pos (show (30 : Int32) < nI w from nI_lt (a := 30) (by omega) (by omega)), gWf, gsi_0 h3]
  | d + 1, w, t, S, f + 1, h1, h2, hf, h, hp, h3 => by
    rw [fX8_takeWord_60, if_neg (show ¬ (30 : Int32) < nI w from nI_nlt (a := 30) (by omega) (by omega)), x_wordOf (by omega) h2, gbv_s, x_spelt h hp hpq (by omega), gbv_s, gWf]
    by_cases c : gWl u pl (q - pl) = gWd (w - 15)
    · rw [decide_eq_true c, if_neg (show ¬ gz true = 0 by decide), if_pos c, glet_s, glet_s, nI_1, x_words hpq d (w + 1) w _ f (by omega) (by omega) (by omega) (h.ot (by decide) _) (by simp [gsi_r]; exact hp) (by simp [gsi_r]), gsi_2]
    · rw [decide_eq_false c, if_pos (show gz false = 0 by decide), if_neg c, glet_s, nI_1, x_words hpq d (w + 1) t S f (by omega) (by omega) (by omega) h hp h3]
theorem x_takeWord {u : Nat → Nat} {n pl : Nat} {S : GS} (h : TkX S u n pl) (hp : S.1 32 4 = nI pl) : fX8_takeWord S = some ((), gsi (gsi S 32 2 (nI (gRn cL u n pl))) 32 3 (nI (gWk (gWl u pl (gRn cL u n pl - pl))))) := by
  have hn := h.2.2.2.2.1
  unfold fX8_takeWord
  rw [x_letters FU S pl h (FU_gt (by omega))]
  unfold fX8_takeWord_52
  have h2 := h.nx (q' := gRn cL u n pl) (gRn_le h.2.2.2.1)
  rw [glet_s, glet_s, show (17 : Int32) = nI 17 from rfl, x_words (gRn_ge cL u n pl) 14 17 2 _ FU rfl (by decide) (FU_gt (by decide)) (h2.ot (by decide) _) (by simp [gsi_r]; exact hp) (by simp [gsi_r]; rfl), gsi_2]
  rfl
def kSn (c : Nat) : Nat := if c = 59 then 4 else if c = 40 then 5 else if c = 41 then 6 else if c = 60 then 7 else if c = 61 then 9 else if c = 62 then 12 else if c = 43 then 13 else if c = 45 then 14 else if c = 42 then 15 else if c = 47 then 16 else 2
theorem x_signOf_all : ∀ v, v < 256 → fX8_signOf gS0 (gby v) = some (nI (kSn v)) := by decide +kernel
theorem x_signOf {S : GS} {v : Nat} (h : v < 256) : fX8_signOf S (gby v) = some (nI (kSn v)) := by
  show fX8_signOf gS0 (gby v) = _
  exact x_signOf_all v h
def gNx (u : Nat → Nat) (n i : Nat) : Nat := if i < n then u i else 256
def kDb (c d : Nat) : Bool := (decide (c = 60) && (decide (d = 61) || decide (d = 62))) || (decide (c = 62) && decide (d = 61))
def kT2 (c d : Nat) : Nat := if c = 60 ∧ d = 61 then 8 else if c = 60 ∧ d = 62 then 10 else if c = 62 ∧ d = 61 then 11 else kSn c
theorem kT2_ne (c d : Nat) : kT2 c d ≠ 3 := by
  unfold kT2 kSn
  repeat' split
  all_goals decide
theorem x_sign52 {S : GS} {c d q1 : Nat} {t0 : Int32} (hc : c < 256) (h61 : t0 = nI 61 ↔ d = 61) (h62 : t0 = nI 62 ↔ d = 62) (h3 : S.1 32 3 = nI (kSn c)) (h2 : S.1 32 2 = nI q1) : ∃ S', fX8_takeSign_52 S t0 (gby c) = some ((), S') ∧ Wr wT S S' ∧ S'.1 32 2 = nI (q1 + if kDb c d then 1 else 0) ∧ S'.1 32 3 = nI (kT2 c d) ∧ S'.1 32 4 = S.1 32 4 := by
  have up : ∀ t : Int32, Wr wT S (gsi (gsi S 32 3 t) 32 2 (nI (q1 + 1))) := fun t => (Wr.rf.si rfl t).si rfl _
  have e60 : (gby c = (60 : Int32)) = (c = 60) := propext (gby_eq hc (by decide))
  have e62 : (gby c = (62 : Int32)) = (c = 62) := propext (gby_eq hc (by decide))
  have f61 : (t0 = (61 : Int32)) = (d = 61) := propext h61
  have f62 : (t0 = (62 : Int32)) = (d = 62) := propext h62
  unfold fX8_takeSign_52 fX8_takeSign_84 fX8_takeSign_115
  simp only [e60, e62, f61, f62]
  by_cases c1 : c = 60
  · subst c1
    by_cases d1 : d = 61
    · subst d1
      refine ⟨_, rfl, ?_, ?_, ?_, ?_⟩
      · simp only [gsi_r]; rw [if_neg (by decide), h2, nI_1]; exact up _
      · simp [gsi_r, h2, nI_1, kDb]
      · simp [gsi_r, kT2]; rfl
      · simp [gsi_r]
    · by_cases d2 : d = 62
      · subst d2
        refine ⟨_, rfl, ?_, ?_, ?_, ?_⟩
        · simp only [gsi_r]; rw [if_neg (by decide), h2, nI_1]; exact up _
        · simp [gsi_r, h2, nI_1, kDb]
        · simp [gsi_r, kT2]; rfl
        · simp [gsi_r]
      · refine ⟨S, by simp [d1, d2], Wr.rf, by simp [kDb, d1, d2, h2], by simp [kT2, d1, d2, h3], rfl⟩
  · by_cases c2 : c = 62
    · subst c2
      by_cases d1 : d = 61
      · subst d1
        refine ⟨_, rfl, ?_, ?_, ?_, ?_⟩
        · simp only [gsi_r]; rw [if_neg (by decide), h2, nI_1]; exact up _
        · simp [gsi_r, h2, nI_1, kDb]
        · simp [gsi_r, kT2]; rfl
        · simp [gsi_r]
      · refine ⟨S, by simp [d1], Wr.rf, by simp [kDb, d1, h2], by simp [kT2, d1, h3], rfl⟩
    · refine ⟨S, by simp [c1, c2], Wr.rf, by simp [kDb, c1, c2, h2], by simp [kT2, c1, c2, h3], rfl⟩
theorem x_sign {u : Nat → Nat} {n q : Nat} {S : GS} (h : TkX S u n q) (hq : q < n) : ∃ S', fX8_takeSign S = some ((), S') ∧ Wr wT S S' ∧ S'.1 32 2 = nI (q + 1 + if kDb (u q) (gNx u n (q + 1)) then 1 else 0) ∧ S'.1 32 3 = nI (kT2 (u q) (gNx u n (q + 1))) ∧ S'.1 32 4 = S.1 32 4 := by
  obtain ⟨a1, a2, a3, a4, a5⟩ := h.at hq
  obtain ⟨S7, e7⟩ : ∃ y, y = gsi (gsi S 32 2 (nI (q + 1))) 32 3 (nI (kSn (u q))) := ⟨_, rfl⟩
  have f7 : Wr wT S S7 := by rw [e7]; exact (Wr.rf.si rfl _).si rfl _
  have t7 : TkX S7 u n (q + 1) := by rw [e7]; exact (h.nx (by omega)).ot (by decide) _
  have p7 : S7.1 32 4 = S.1 32 4 := by rw [e7]; simp [gsi_r]
  have k7 : S7.1 32 3 = nI (kSn (u q)) := by rw [e7]; simp [gsi_r]
  have key : ∀ t0 : Int32, (t0 = nI 61 ↔ gNx u n (q + 1) = 61) → (t0 = nI 62 ↔ gNx u n (q + 1) = 62) → ∃ S', fX8_takeSign_52 S7 t0 (gby (u q)) = some ((), S') ∧ Wr wT S S' ∧ S'.1 32 2 = nI (q + 1 + if kDb (u q) (gNx u n (q + 1)) then 1 else 0) ∧ S'.1 32 3 = nI (kT2 (u q) (gNx u n (q + 1))) ∧ S'.1 32 4 = S.1 32 4 := by
    intro t0 h1 h2
    obtain ⟨S', b1, b2, b3, b4, b5⟩ := x_sign52 (S := S7) (q1 := q + 1) a5 h1 h2 k7 t7.2.2.1
    exact ⟨S', b1, f7.tr b2, b3, b4, b5.trans p7⟩
  unfold fX8_takeSign
  rw [if_pos a2, if_pos a3, a4, glet_s, h.2.2.1, nI_1, glet_s, x_signOf a5, gbv_s, glet_s, ← e7]
  by_cases hq1 : q + 1 < n
  · obtain ⟨b1, b2, b3, b4, b5⟩ := t7.at hq1
    rw [if_neg b1, if_pos b2, if_pos b3, b4]
    have eg : gNx u n (q + 1) = u (q + 1) := if_pos hq1
    exact key _ (by rw [eg]; exact gby_eq b5 (by decide)) (by rw [eg]; exact gby_eq b5 (by decide))
  · rw [if_pos (t7.en hq1)]
    have eg : gNx u n (q + 1) = 256 := if_neg hq1
    refine key _ ?_ ?_
    · rw [eg]; decide
    · rw [eg]; decide
/-- a token: its place, its code, where the next one begins, its number -/
def kTp (u : Nat → Nat) (n q : Nat) : Nat := gRn cB u n q
def kTt (u : Nat → Nat) (n q : Nat) : Nat := if kTp u n q < n then (if cL (u (kTp u n q)) = true then gWk (gWl u (kTp u n q) (gRn cL u n (kTp u n q) - kTp u n q)) else if cD (u (kTp u n q)) = true then 3 else kT2 (u (kTp u n q)) (gNx u n (kTp u n q + 1))) else 1
def kTq (u : Nat → Nat) (n q : Nat) : Nat := if kTp u n q < n then (if cL (u (kTp u n q)) = true then gRn cL u n (kTp u n q) else if cD (u (kTp u n q)) = true then gRn cD u n (kTp u n q) else kTp u n q + 1 + if kDb (u (kTp u n q)) (gNx u n (kTp u n q + 1)) then 1 else 0) else kTp u n q
def kTn (u : Nat → Nat) (n q : Nat) : Nat := gNv u n (kTp u n q) 0
theorem x_adv {u : Nat → Nat} {n q : Nat} {S : GS} (h : TkX S u n q) : ∃ S', fX8_advance S = some ((), S') ∧ Wr wT S S' ∧ S'.1 32 2 = nI (kTq u n q) ∧ S'.1 32 3 = nI (kTt u n q) ∧ S'.1 32 4 = nI (kTp u n q) ∧ (kTt u n q = 3 → S'.1 32 5 = nI (kTn u n q)) := by
  have hn := h.2.2.2.2.1
  unfold fX8_advance
  rw [x_blank FU S q h (FU_gt (by omega))]
  have hp : kTp u n q ≤ n := gRn_le h.2.2.2.1
  unfold kTq kTt kTn
  change ∃ S', fX8_advance_52 (gsi S 32 2 (nI (kTp u n q))) = _ ∧ _
  generalize kTp u n q = p at hp ⊢
  unfold fX8_advance_52
  obtain ⟨S1, e1⟩ : ∃ y, y = gsi (gsi S 32 2 (nI p)) 32 4 (nI p) := ⟨_, rfl⟩
  have f1 : Wr wT S S1 := by rw [e1]; exact (Wr.rf.si rfl _).si rfl _
  have t1 : TkX S1 u n p := by rw [e1]; exact (h.nx hp).ot (by decide) _
  have p1 : S1.1 32 4 = nI p := by rw [e1]; simp [gsi_r]
  rw [show (gsi S 32 2 (nI p)).1 32 2 = nI p by simp [gsi_r], glet_s, ← e1]
  by_cases hq : p < n
  · obtain ⟨a1, a2, a3, a4, a5⟩ := t1.at hq
    rw [if_pos (show S1.1 32 2 < S1.1 32 1 by rw [t1.2.2.1, t1.2.1]; exact nI_lt hq (by omega)), if_pos a2, if_pos a3, a4, if_pos hq, if_pos hq]
    have nolet : ¬ cL (u p) = true → ∃ S', fX8_advance_114 S1 = some ((), S') ∧ Wr wT S S' ∧ S'.1 32 2 = nI (if cL (u p) = true then gRn cL u n p else if cD (u p) = true then gRn cD u n p else p + 1 + if kDb (u p) (gNx u n (p + 1)) then 1 else 0) ∧ S'.1 32 3 = nI (if cL (u p) = true then gWk (gWl u p (gRn cL u n p - p)) else if cD (u p) = true then 3 else kT2 (u p) (gNx u n (p + 1))) ∧ S'.1 32 4 = nI p ∧ ((if cL (u p) = true then gWk (gWl u p (gRn cL u n p - p)) else if cD (u p) = true then 3 else kT2 (u p) (gNx u n (p + 1))) = 3 → S'.1 32 5 = nI (gNv u n p 0)) := by
      intro hl
      rw [if_neg hl, if_neg hl]
      unfold fX8_advance_114
      rw [if_pos a2, if_pos a3, a4]
      have nodig : ¬ cD (u p) = true → ∃ S', fX8_advance_149 S1 = some ((), S') ∧ Wr wT S S' ∧ S'.1 32 2 = nI (if cD (u p) = true then gRn cD u n p else p + 1 + if kDb (u p) (gNx u n (p + 1)) then 1 else 0) ∧ S'.1 32 3 = nI (if cD (u p) = true then 3 else kT2 (u p) (gNx u n (p + 1))) ∧ S'.1 32 4 = nI p ∧ ((if cD (u p) = true then 3 else kT2 (u p) (gNx u n (p + 1))) = 3 → S'.1 32 5 = nI (gNv u n p 0)) := by
        intro hd
        rw [if_neg hd, if_neg hd]
        obtain ⟨S', b1, b2, b3, b4, b5⟩ := x_sign t1 hq
        unfold fX8_advance_149
        rw [b1, gbd_s]
        exact ⟨S', rfl, f1.tr b2, b3, b4, b5.trans p1, fun z => absurd z (kT2_ne _ _)⟩
      by_cases c1 : gby (u p) < (48 : Int32)
      · have := (gby_lt a5 (c := 48) (by decide)).mp c1
        rw [if_pos c1]
        exact nodig (by simp [cD]; omega)
      rw [if_neg c1]
      by_cases c2 : (57 : Int32) < gby (u p)
      · have := (gby_gt a5 (c := 57) (by decide)).mp c2
        rw [if_pos c2]
        exact nodig (by simp [cD]; omega)
      have b1 : ¬ (128 ≤ u p ∨ u p < 48) := fun z => c1 ((gby_lt a5 (c := 48) (by decide)).mpr z)
      have b2 : ¬ (u p < 128 ∧ 57 < u p) := fun z => c2 ((gby_gt a5 (c := 57) (by decide)).mpr z)
      have hd : cD (u p) = true := by simp [cD]; omega
      rw [if_neg c2, if_pos hd, if_pos hd]
      unfold fX8_takeNumber
      rw [glet_s, x_digits FU _ p 0 (t1.ot (by decide) _) (by simp [gsi_r]; rfl) (by decide) (FU_gt (by omega)), gbd_s]
      refine ⟨_, rfl, f1.tr ((((Wr.rf.si rfl _).si rfl _).si rfl _).si rfl _), by simp [gsi_r], by simp [gsi_r]; rfl, by simp [gsi_r]; exact p1, fun _ => by simp [gsi_r]⟩
    by_cases c1 : gby (u p) < (97 : Int32)
    · have := (gby_lt a5 (c := 97) (by decide)).mp c1
      rw [if_pos c1]
      exact nolet (by simp [cL]; omega)
    rw [if_neg c1]
    by_cases c2 : (122 : Int32) < gby (u p)
    · have := (gby_gt a5 (c := 122) (by decide)).mp c2
      rw [if_pos c2]
      exact nolet (by simp [cL]; omega)
    have b1 : ¬ (128 ≤ u p ∨ u p < 97) := fun z => c1 ((gby_lt a5 (c := 97) (by decide)).mpr z)
    have b2 : ¬ (u p < 128 ∧ 122 < u p) := fun z => c2 ((gby_gt a5 (c := 122) (by decide)).mpr z)
    have hd : cL (u p) = true := by simp [cL]; omega
    rw [if_neg c2, if_pos hd, if_pos hd, x_takeWord t1 p1, gbd_s]
    exact ⟨_, rfl, f1.tr ((Wr.rf.si rfl _).si rfl _), by simp [gsi_r], by simp [gsi_r], by simp [gsi_r]; exact p1, fun z => absurd z (gWf_ne _ _ _ (by decide) (by decide))⟩
  · rw [if_neg (show ¬ S1.1 32 2 < S1.1 32 1 by rw [t1.2.2.1, t1.2.1]; exact nI_nlt (by omega) (by omega)), glet_s, if_neg hq, if_neg hq]
    exact ⟨_, rfl, f1.si rfl _, by simp [gsi_r]; exact t1.2.2.1, by simp [gsi_r]; rfl, by simp [gsi_r]; exact p1, fun z => by cases z⟩

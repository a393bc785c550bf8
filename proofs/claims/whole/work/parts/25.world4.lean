/-! the class sees the world of a day, from what is told -/
theorem gLd_ld {f : Nat → Nat → Int32} {cn : Nat → Bool} {np m : Nat} (h : ∀ i, i < m → f 15 i = 7 → (f 19 i).toNatClampNeg < np ∧ (f 18 i).toNatClampNeg < np) : ∀ p, p < np → gLd f cn m (gLd f cn m p) = gLd f cn m p := by
  induction m with
  | zero => exact fun p _ => rfl
  | succ m ih =>
    intro p hp
    have ih := ih (fun i hi => h i (by omega))
    have lt := gLd_lt (f := f) (cn := cn) (np := np) (m := m) (fun i hi => h i (by omega))
    have e : ∀ p, gLd f cn (m + 1) p = if cn m = true ∧ f 15 m = 7 then (if gLd f cn m p = max (gLd f cn m (f 19 m).toNatClampNeg) (gLd f cn m (f 18 m).toNatClampNeg) then min (gLd f cn m (f 19 m).toNatClampNeg) (gLd f cn m (f 18 m).toNatClampNeg) else gLd f cn m p) else gLd f cn m p := fun p => rfl
    by_cases c : cn m = true ∧ f 15 m = 7
    · obtain ⟨ha, hb⟩ := h m (by omega) c.2
      have ia := ih _ ha
      have ib := ih _ hb
      simp only [e, if_pos c]
      generalize gLd f cn m (f 19 m).toNatClampNeg = A at *
      generalize gLd f cn m (f 18 m).toNatClampNeg = Bb at *
      have il : gLd f cn m (min A Bb) = min A Bb := by
        rcases Nat.le_total A Bb with q | q
        · rw [Nat.min_eq_left q]; exact ia
        · rw [Nat.min_eq_right q]; exact ib
      by_cases c2 : gLd f cn m p = max A Bb
      · rw [if_pos c2, il]
        by_cases c3 : min A Bb = max A Bb
        · rw [if_pos c3]
        · rw [if_neg c3]
      · rw [if_neg c2, ih p hp, if_neg c2]
    · simp only [e, if_neg c]
      exact ih p hp
def ctx (f : Nat → Nat → Int32) (k wo : Int32) (td nc np nk nn r : Nat) (t0 t1 : (Nat → Int64) → Bool) (en : Nat) : CT := (f, gCn f k wo nn, gLd f (gCn f k wo nn) nn, gSn f k wo nk, td, nc, np, nk, nn, r, t0, t1, en)
theorem ctx_ok {f : Nat → Nat → Int32} {k wo : Int32} {td nc np nk nn r : Nat} {t0 t1 : (Nat → Int64) → Bool} {en : Nat} (hD : DBx f td nc np nk nn) : (ctx f k wo td nc np nk nn r t0 t1 en).ok := by
  have hnk := hD.2.2.2.1.2.2.1
  have hnp := hD.2.2.1.2.2.1
  have j7 : ∀ i, i < nn → f 15 i = 7 → (f 19 i).toNatClampNeg < np ∧ (f 18 i).toNatClampNeg < np := fun i hi h7 => by
    have w := (hD.2.2.2.2.2.2.2 i hi).2.2.2.2.2.2.2.1 h7
    exact ⟨(gib_c w.2.2.1 (by omega)).1, (gib_c w.2.2.2 (by omega)).1⟩
  have cn' : ∀ n, gCn f k wo nn n = true → f 16 n ≤ k ∧ gOf f wo n = false := fun n h => by
    unfold gCn at h
    simp only [Bool.and_eq_true, decide_eq_true_eq, Bool.not_eq_true'] at h
    exact ⟨h.1.1, h.2⟩
  have sn' : ∀ (x : Int32), gib x nk = true → x ≠ wo → ¬ k < f 12 x.toNatClampNeg → gSn f k wo nk x.toNatClampNeg = true := fun x h1 h2 h3 => by
    obtain ⟨c, hc, rfl⟩ := gib_ex h1 (by omega)
    rw [nI_clamp (by omega)] at h3 ⊢
    simp [gSn, hc, h2, h3]
  refine ⟨hD, fun c h => ?_, fun n hn hc h4 => ?_, fun n hn hc h1 h4 => ?_, gLd_lt j7, gLd_ld j7⟩
  · have h : gSn f k wo nk c = true := h
    unfold gSn at h
    simp only [Bool.and_eq_true, decide_eq_true_eq] at h
    exact h.1.1
  · obtain ⟨q1, q2⟩ := cn' n hc
    have h4 : f 15 n ≤ 4 := h4
    unfold gOf at q2
    simp only [Bool.or_eq_false_iff, Bool.and_eq_false_iff, decide_eq_false_iff_not] at q2
    have n17 : f 17 n ≠ wo := by
      rcases q2.1 with z | z
      · exact absurd h4 z
      · exact z
    have w := hD.2.2.2.2.2.2.2 n hn
    by_cases c1 : f 15 n ≤ 1
    · have v := w.2.2.2.2.1 c1
      exact sn' _ v.2.2.2.2.1 n17 (fun z => (fa_of_lt (fa_trans z v.2.2.2.2.2.2.2.2)).2.1 q1)
    · have v := w.2.2.2.2.2.1 (fa_of_nle c1) h4
      exact sn' _ v.2.2.1 n17 (fun z => (fa_of_lt (fa_trans z v.2.2.2.2.2.1)).2.1 q1)
  · obtain ⟨q1, q2⟩ := cn' n hc
    have h4 : f 15 n ≤ 4 := h4
    have h1 : 1 < f 15 n := h1
    unfold gOf at q2
    simp only [Bool.or_eq_false_iff, Bool.and_eq_false_iff, decide_eq_false_iff_not] at q2
    have n18 : f 18 n ≠ wo := by
      rcases q2.2 with (z | z) | z
      · exact absurd h1 z
      · exact absurd h4 z
      · exact z
    have v := (hD.2.2.2.2.2.2.2 n hn).2.2.2.2.2.1 h1 h4
    exact sn' _ v.2.2.2.1 n18 (fun z => (fa_of_lt (fa_trans z v.2.2.2.2.2.2.1)).2.1 q1)
/-- what the class's asking leaves alone -/
def Lz (S S' : GS) : Prop := (∀ c, c < 35 ∨ 52 ≤ c → S'.1 c = S.1 c) ∧ ∀ i, i ≠ 2 → S'.2.2 i = S.2.2 i
theorem Lz.tr {S S1 S2 : GS} (h : Lz S S1) (h2 : Lz S1 S2) : Lz S S2 := ⟨fun c a => (h2.1 c a).trans (h.1 c a), fun i hi => (h2.2 i hi).trans (h.2 i hi)⟩
theorem Lz.rf {S : GS} : Lz S S := ⟨fun _ _ => rfl, fun _ _ => rfl⟩
theorem Lw.lz {S S1 : GS} (h : Lw S S1) : Lz S S1 := ⟨fun c a => h.1 c (by omega) (by omega) (by omega), fun i _ => by rw [h.2]⟩
theorem LE.lz {S S1 : GS} (h : LE S S1) : Lz S S1 := h.lw.lz
theorem IV_lz {S S' : GS} (h : IV S) (e : Lz S S') : IV S' := by
  refine IV_scr h (fun k j hi => ?_) (e.2 0 (by decide)) (e.2 1 (by decide))
  rw [e.1 k]
  simp only [irel, Bool.or_eq_true, Bool.and_eq_true, decide_eq_true_eq, beq_iff_eq] at hi
  omega
section
variable {S : GS} {k wo : Int32} {td nc np nk nn r : Nat} {t0 t1 : (Nat → Int64) → Bool} {en : Nat}
theorem x_world (hD : DBx S.1 td nc np nk nn) (hR : RX S.1 r t0 t1 en) : ∃ S', fX9_see S r k wo = some ((), S') ∧ Lz S S' ∧ WD (ctx S.1 k wo td nc np nk nn r t0 t1 en) S' := by
  have hX := ctx_ok (k := k) (wo := wo) (r := r) (t0 := t0) (t1 := t1) (en := en) hD
  have hnk := hD.2.2.2.1.2.2.1
  have hnp := hD.2.2.1.2.2.1
  have hnn := hD.2.2.2.2.2.2.1
  unfold fX9_see
  rw [glet_s]
  obtain ⟨S4, a1, a2, a3⟩ := x_see (S0 := gsq S 2 r) (td := td) hnp hnk hnn hD.2.2.1.1 hD.2.2.2.1.1 hD.2.2.2.2.1 hD.2.2.2.2.2.2.2 k wo
  rw [a1, gbd_s, glet_s, glet_s]
  obtain ⟨n1, n2, n3, n4, n5, n6, n7, n8, n9, n10⟩ := a3
  have base : ∀ c, c ≤ 30 → S4.1 c = S.1 c := fun c hc => a2.1 c (by simp; omega)
  have hl : ∀ p, p < np → gLd S.1 (gCn S.1 k wo nn) nn p < np := hX.ld_lt
  have kz : KZ (ctx S.1 k wo td nc np nk nn r t0 t1 en) S4 := by
    refine ⟨⟨⟨fun c hc => base c (by omega), fun p hp => ⟨n2 p hp, hl p hp⟩, fun c hc p hp d hd => ?_, fun c hc p hp d hd => ?_, n8, n9, n10⟩, fun c _ hc => base c hc, ?_⟩, n1, fun p hp q hq => ?_, fun c hc d hd => ?_, fun p hp c hc => ?_⟩
    · apply bool_iff
      rw [n5 c hc p hp d hd]
      unfold gTq
      rw [gAny_iff]
      unfold gTp gTr
      simp only [Bool.and_eq_true, decide_eq_true_eq]
      exact ⟨fun ⟨n, h1, ⟨h2, h3, h4, h5⟩, h6⟩ => ⟨n, h1, ⟨⟨⟨h2, h3⟩, h4⟩, h5⟩, h6⟩, fun ⟨n, h1, ⟨⟨⟨h2, h3⟩, h4⟩, h5⟩, h6⟩ => ⟨n, h1, ⟨h2, h3, h4, h5⟩, h6⟩⟩
    · apply bool_iff
      rw [n6 c hc p hp d hd]
      unfold gTq
      rw [gAny_iff]
      unfold gTp gTr
      simp only [Bool.and_eq_true, decide_eq_true_eq]
      exact ⟨fun ⟨n, h1, ⟨h2, h3, h4, h5⟩, h6⟩ => ⟨n, h1, ⟨⟨⟨h2, h3⟩, h4⟩, h5⟩, h6⟩, fun ⟨n, h1, ⟨⟨⟨h2, h3⟩, h4⟩, h5⟩, h6⟩ => ⟨n, h1, ⟨h2, h3, h4, h5⟩, h6⟩⟩
    · have : S4.2.2 2 = (gsq S 2 r).2.2 2 := by rw [a2.2]
      rw [this]; simp [gsq]; rfl
    · apply bool_iff
      rw [n3 p hp q hq]
      unfold CT.ag
      rw [gAny_iff]
      simp only [gAny_iff, Bool.and_eq_true, decide_eq_true_eq, Bool.not_eq_true', decide_eq_false_iff_not]
      unfold gAg
      exact ⟨fun ⟨a, b, h1, h2, h3, h4, h5, h6⟩ => ⟨a, h1, b, h2, ⟨⟨h3, h4⟩, h5⟩, h6⟩, fun ⟨a, h1, b, h2, ⟨⟨h3, h4⟩, h5⟩, h6⟩ => ⟨a, b, h1, h2, h3, h4, h5, h6⟩⟩
    · apply bool_iff
      rw [n4 c hc d hd]
      unfold CT.un
      rw [gAny_iff]
      simp only [Bool.and_eq_true, decide_eq_true_eq]
      unfold gTr
      exact ⟨fun ⟨n, h1, h2, h3, h4, h5⟩ => ⟨n, h1, ⟨⟨h2, h3⟩, h4⟩, h5⟩, fun ⟨n, h1, ⟨⟨h2, h3⟩, h4⟩, h5⟩ => ⟨n, h1, h2, h3, h4, h5⟩⟩
    · apply bool_iff
      rw [n7 p hp c hc]
      unfold CT.sp
      rw [gAny_iff]
      simp only [Bool.and_eq_true, decide_eq_true_eq]
      exact Iff.rfl
  obtain ⟨S', b1, b2, b3⟩ := x_see20 hX hR kz
  refine ⟨S', b1, ?_, b3⟩
  refine Lz.tr ⟨fun c hc => ?_, fun i hi => ?_⟩ b2.lz
  · rw [a2.1 c (by simp; omega)]; rfl
  · rw [a2.2]; simp [gsq, hi]
end

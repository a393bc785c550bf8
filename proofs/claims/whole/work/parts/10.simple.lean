/-! the calls that look at nothing or only tell -/
def gz (b : Bool) : Int32 := if b then 1 else 0
theorem gz_t : gz true = 1 := rfl
theorem gz_f : gz false = 0 := rfl
theorem i10 : ¬ ((1 : Int32) = 0) := by decide
theorem gbv_s {α β : Type} (q : α) (k : α → Option β) : gbv (some q) k = k q := rfl
theorem gbd_s {α β : Type} (q : α) (S : GS) (k : α → GS → Option β) : gbd (some (q, S)) k = k q S := rfl
theorem glet_s {α β : Type} (q : α) (k : α → β) : glet q k = k q := rfl
theorem chk_le (a : Int32) {n : Nat} (hn : n < 2 ^ 31) : (if a < 0 then some (0 : Int32) else (if nI n ≤ a then some (0 : Int32) else some (1 : Int32))) = some (gz (gib a n)) := by
  by_cases h1 : a < 0
  · rw [if_pos h1]
    have : gib a n = false := by simp [gib, h1]
    rw [this]; rfl
  · rw [if_neg h1]
    obtain ⟨j, hj, rfl⟩ := nI_of h1
    by_cases h2 : n ≤ j
    · rw [if_pos ((nI_leI hn hj).mpr h2)]
      have : gib (nI j) n = false := by simp [gib, nI_clamp hj, h2]
      rw [this]; rfl
    · rw [if_neg (fun q => h2 ((nI_leI hn hj).mp q)), gib_nI (by omega) hn]; rfl
theorem chk_lt (a : Int32) {n : Nat} (hn : n + 1 < 2 ^ 31) : (if a < 0 then some (0 : Int32) else (if nI n < a then some (0 : Int32) else some (1 : Int32))) = some (gz (gib a (n + 1))) := by
  rw [← chk_le a hn]
  by_cases h1 : a < 0
  · rw [if_pos h1, if_pos h1]
  · rw [if_neg h1, if_neg h1]
    obtain ⟨j, hj, rfl⟩ := nI_of h1
    have : (nI n < nI j) = (nI (n + 1) ≤ nI j) := by rw [nI_ltI (by omega) hj, nI_leI hn hj]; rfl
    simp only [this]
section
variable {S : GS} {a : Int32} {n : Nat}
theorem x_isDay : fX10_isDay S a = some (gz (gib a 10000)) := chk_lt a (n := 9999) (by decide)
theorem x_areFacts : fX10_areFacts S a = some (gz (gib a 1024)) := chk_lt a (n := 1023) (by decide)
theorem x_isCourt (h : S.1 2 0 = nI n) (hn : n < 2 ^ 31) : fX10_isCourt S a = some (gz (gib a n)) := by unfold fX10_isCourt; rw [h]; exact chk_le a hn
theorem x_isPoint (h : S.1 5 0 = nI n) (hn : n < 2 ^ 31) : fX10_isPoint S a = some (gz (gib a n)) := by unfold fX10_isPoint; rw [h]; exact chk_le a hn
theorem x_isCase (h : S.1 7 0 = nI n) (hn : n < 2 ^ 31) : fX10_isCase S a = some (gz (gib a n)) := by unfold fX10_isCase; rw [h]; exact chk_le a hn
theorem m_isDay : fX11_isDay S a = some (gz (gib a 10000)) := chk_lt a (n := 9999) (by decide)
theorem m_isFacts : fX11_isFacts S a = some (gz (gib a 1024)) := chk_le a (n := 1024) (by decide)
theorem m_isCourt (h : S.1 54 30 = nI n) (hn : n < 2 ^ 31) : fX11_isCourt S a = some (gz (gib a n)) := by unfold fX11_isCourt; rw [h]; exact chk_le a hn
theorem m_isPoint (h : S.1 54 33 = nI n) (hn : n < 2 ^ 31) : fX11_isPoint S a = some (gz (gib a n)) := by unfold fX11_isPoint; rw [h]; exact chk_le a hn
theorem m_isCase (h : S.1 54 35 = nI n) (hn : n < 2 ^ 31) : fX11_isCase S a = some (gz (gib a n)) := by unfold fX11_isCase; rw [h]; exact chk_le a hn
end
theorem x_isAskable {S : GS} {a b c d : Int32} {n : Nat} (h : S.1 2 0 = nI n) (hn : n < 2 ^ 31) : fX10_isAskable S a b c d = some (gz (gib a n && gib b 1024 && gib c 10000 && gib d 10000)) := by
  unfold fX10_isAskable
  rw [x_isCourt h hn, x_areFacts, x_isDay, x_isDay]
  simp only [gbv_s]
  cases gib a n <;> cases gib b 1024 <;> cases gib c 10000 <;> cases gib d 10000 <;> simp [gz, i10]
theorem m_isAsked {S : GS} {a b c d : Int32} {n : Nat} (h : S.1 54 30 = nI n) (hn : n < 2 ^ 31) : fX11_isAsked S a b c d = some (gz (gib a n && gib b 1024 && gib c 10000 && gib d 10000)) := by
  unfold fX11_isAsked
  rw [m_isCourt h hn, m_isFacts, m_isDay, m_isDay]
  simp only [gbv_s]
  cases gib a n <;> cases gib b 1024 <;> cases gib c 10000 <;> cases gib d 10000 <;> simp [gz, i10]
/-- both sides answer the same, and the invariant holds behind them -/
def Both (S : GS) (x m : GS → Option (Int32 × GS)) : Prop := ∃ r S1 S2, x S = some (r, S1) ∧ m S1 = some (r, S2) ∧ IV S2
theorem call_fault {S : GS} (h : IV S) (a : Int32) : Both S (fun S => gbv (fX10_fault S a) fun r => some (r, S)) (fun S => fX11_fault S a) := by
  obtain ⟨td, nt, nc, np, nk, nn, ht, hc, hp, hk, hn, hr, hf⟩ := id h
  by_cases c1 : a = 0
  · refine ⟨S.1 31 0, S, gsi S 54 0 0, ?_, ?_, IV_thr h 0⟩
    · simp [fX10_fault, gbv, c1]
    · simp [fX11_fault, glet, c1, gsi, hf.1, hf.2]
  by_cases c2 : a = 1
  · refine ⟨S.1 31 1, S, gsi S 54 0 0, ?_, ?_, IV_thr h 0⟩
    · simp [fX10_fault, gbv, c2]
    · simp [fX11_fault, glet, c2, gsi, hf.1, hf.2]
  refine ⟨-1, S, gsi S 54 0 0, ?_, ?_, IV_thr h 0⟩
  · simp [fX10_fault, gbv, c1, c2]
  · simp [fX11_fault, glet, c1, c2, gsi]
theorem call_count {S : GS} (h : IV S) (a : Int32) : Both S (fun S => gbv (fX10_count S a) fun r => some (r, S)) (fun S => fX11_count S a) := by
  obtain ⟨td, nt, nc, np, nk, nn, ht, hc, hp, hk, hn, hr, hf⟩ := id h
  have hg : gk (S.2.2 0) = 7 := by rcases hr.1 with ⟨q, -⟩ | ⟨q, -⟩ <;> rw [q] <;> rfl
  have h5 := hr.2.1
  have h6 := hr.2.2.1
  have e : ∀ (v : Int32), (fX10_count S a = some v) → fX11_count S a = some (v, gsi S 54 0 0) → Both S (fun S => gbv (fX10_count S a) fun r => some (r, S)) (fun S => fX11_count S a) :=
    fun v h1 h2 => ⟨v, S, _, by show gbv (fX10_count S a) _ = _; rw [h1]; rfl, h2, IV_thr h 0⟩
  unfold IVt at ht; unfold IVc at hc; unfold IVp at hp; unfold IVk at hk; unfold IVn at hn
  by_cases c0 : a = 0
  · exact e (nI td) (by simp [fX10_count, c0, ht.1]) (by simp [fX11_count, glet, c0, gsi, ht.2.1])
  by_cases c1 : a = 1
  · exact e (nI nc) (by simp [fX10_count, c1, hc.1]) (by simp [fX11_count, glet, c1, gsi, hc.2.1])
  by_cases c2 : a = 2
  · exact e (nI np) (by simp [fX10_count, c2, hp.1]) (by simp [fX11_count, glet, c2, gsi, hp.2.1])
  by_cases c3 : a = 3
  · exact e (nI nk) (by simp [fX10_count, c3, hk.1]) (by simp [fX11_count, glet, c3, gsi, hk.2.1])
  by_cases c4 : a = 4
  · exact e (nI nn) (by simp [fX10_count, c4, hn.1]) (by simp [fX11_count, glet, c4, gsi, hn.2.1])
  by_cases c5 : a = 5
  · exact e (S.1 54 9) (by simp [fX10_count, c5, hg, h5]) (by simp [fX11_count, glet, c5, gsi])
  by_cases c6 : a = 6
  · exact e (S.1 54 7) (by simp [fX10_count, c6, hg, h6]) (by simp [fX11_count, glet, c6, gsi])
  exact e (-1) (by simp [fX10_count, c0, c1, c2, c3, c4, c5, c6]) (by simp [fX11_count, glet, c0, c1, c2, c3, c4, c5, c6])
theorem call_days {S : GS} (h : IV S) (a : Int32) : Both S (fun S => fX10_days S a) (fun S => fX11_days S a) := by
  obtain ⟨td, nt, nc, np, nk, nn, ht, hc, hp, hk, hn, hr, hf⟩ := id h
  have hno : fX10_days S a = some (-1, S) → fX11_days S a = some (-1, gsi S 54 0 0) → Both S (fun S => fX10_days S a) (fun S => fX11_days S a) := fun h1 h2 => ⟨-1, S, _, h1, h2, IV_thr h 0⟩
  by_cases c1 : a < 0
  · exact hno (by simp [fX10_days, x_isDay, gbv, gib, c1, gz]) (by simp [fX11_days, glet, c1])
  obtain ⟨j, hj, rfl⟩ := nI_of c1
  by_cases c2 : (9999 : Int32) < nI j
  · refine hno ?_ (by simp [fX11_days, glet, c1, c2])
    have : gib (nI j) 10000 = false := by
      have h2 : nI 9999 < nI j := c2
      rw [nI_ltI (by decide) hj] at h2
      simp [gib, nI_clamp hj]; omega
    simp [fX10_days, x_isDay, gbv, this, gz]
  have hj9 : j ≤ 9999 := by
    have h2 : ¬ nI 9999 < nI j := c2
    rw [nI_ltI (by decide) hj] at h2
    omega
  obtain ⟨t1, t2, t3, t4⟩ := id ht
  have g1 : gib (nI j) 10000 = true := gib_nI (by omega) (by decide)
  have e1 : S.1 0 2 + nI j = nI (td + j) := by rw [t1, nI_add]
  have e2 : S.1 54 29 + nI j = nI (td + j) := by rw [t2, nI_add]
  by_cases c3 : td + j ≤ 9999
  · refine ⟨nI (td + j), gsi S 0 2 (nI (td + j)), gsi (gsi (gsi S 0 2 (nI (td + j))) 54 0 0) 54 29 (nI (td + j)), ?_, ?_, ?_⟩
    · simp [fX10_days, x_isDay, gbv, g1, gz, e1, gib_nI (show td + j < 10000 by omega) (by decide), glet, gsi]
    · have e3 : nI (td + j) ≤ (9999 : Int32) := by show nI (td + j) ≤ nI 9999; rw [nI_leI (by omega) (by decide)]; exact c3
      simp only [fX11_days, glet_s]
      rw [if_neg c1, if_neg c2]
      have e4 : (gsi (gsi S 0 2 (nI (td + j))) 54 0 0).1 54 29 + nI j = nI (td + j) := by simp [gsi, e2]
      rw [e4, if_pos e3]
      simp [gsi]
    · refine ⟨td + j, nt, nc, np, nk, nn, ?_, ?_, ?_, ?_, ?_, ?_, ?_⟩
      · unfold IVt at ht ⊢; simp [gsi]; exact ⟨c3, ht.2.2.2⟩
      · unfold IVc at hc ⊢; simpa [gsi] using hc
      · unfold IVp at hp ⊢; simpa [gsi] using hp
      · unfold IVk gLat gOi at hk ⊢
        simp only [gsi] at hk ⊢
        simp at hk ⊢
        refine ⟨hk.1, hk.2.1, hk.2.2.1, fun i hi => ?_, hk.2.2.2.2⟩
        obtain ⟨q1, q2, q3, q4, q5, q6, q7, q8, q9, q10, q11⟩ := hk.2.2.2.1 i hi
        exact ⟨q1, q2, q3, q4, q5, q6, gib_ge q7 (by omega), q8, q9, q10, gib_ge q11 (by omega)⟩
      · unfold IVn IVn1 gLat at hn ⊢
        simp only [gsi] at hn ⊢
        simp at hn ⊢
        refine ⟨hn.1, hn.2.1, hn.2.2.1, fun i hi => ?_⟩
        obtain ⟨q1, q2, q3, q4, q5⟩ := hn.2.2.2 i hi
        exact ⟨q1, q2, q3, gib_ge q4 (by omega), q5⟩
      · obtain ⟨hr0, hr1⟩ := hr
        refine ⟨hr0, ?_⟩
        unfold IVl at hr1 ⊢
        have q0 : (gsi (gsi (gsi S 0 2 (nI (td + j))) 54 0 0) 54 29 (nI (td + j))).2 = S.2 := rfl
        rw [q0]
        rcases hr0 with ⟨z, -⟩ | ⟨z, -⟩ <;> rw [z] at hr1 ⊢ <;> simpa [gsi] using hr1
      · unfold IVf at hf ⊢; simpa [gsi] using hf
  · refine hno ?_ ?_
    · have : gib (nI (td + j)) 10000 = false := by simp [gib, nI_clamp (show td + j < 2 ^ 31 by omega)]; omega
      simp [fX10_days, x_isDay, gbv, g1, gz, e1, this]
    · have e3 : ¬ nI (td + j) ≤ (9999 : Int32) := by show ¬ nI (td + j) ≤ nI 9999; rw [nI_leI (by omega) (by decide)]; exact c3
      simp only [fX11_days, glet_s]
      rw [if_neg c1, if_neg c2]
      have e4 : (gsi S 54 0 0).1 54 29 + nI j = nI (td + j) := by simp [gsi, e2]
      rw [e4, if_neg e3]

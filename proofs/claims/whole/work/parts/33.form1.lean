/-! the rules' formulas: the class works them out as the reference does -/
def gBig (r : Int64) : Bool := decide ((1000000000000 : Int64) < r) || decide (r < -1000000000000)
/-- what a sign makes of two numbers -/
def gWv (t : Nat) (a b : Int64) : Int64 :=
  if t = 7 then (if 0 ≤ lg_cmp a b then (0 : Int64) else 1) else
  if t = 8 then (if 0 < lg_cmp a b then (0 : Int64) else 1) else
  if t = 9 then (if lg_cmp a b = 0 then (1 : Int64) else 0) else
  if t = 10 then (if lg_cmp a b = 0 then (0 : Int64) else 1) else
  if t = 11 then (if lg_cmp a b < 0 then (0 : Int64) else 1) else
  if t = 12 then (if lg_cmp a b ≤ 0 then (0 : Int64) else 1) else
  if t = 13 then (a + b) else
  if t = 14 then (a - b) else
  if t = 15 then (if lg_cmp a 0 = 0 then a * b else if lg_cmp (if 0 < b then b else -b) ((1000000000000 : Int64) / (if 0 < a then a else -a)) ≤ 0 then a * b else (1000000000001 : Int64)) else
  if t = 16 then (if lg_cmp b 0 = 0 then (1000000000001 : Int64) else a / b) else
  if t = 18 then (if lg_cmp a 0 = 0 then (0 : Int64) else if lg_cmp b 0 = 0 then 0 else 1) else
  if t = 19 then (if lg_cmp a 0 = 0 then (if lg_cmp b 0 = 0 then (0 : Int64) else 1) else 1) else
  0
theorem negz {a : Int64} (h : ¬ a = 0) : ¬ -a = 0 := by
  intro z
  apply h
  have : -(-a) = -(0 : Int64) := by rw [z]
  simpa using this
theorem absz {a : Int64} (h : ¬ a = 0) : ¬ (if 0 < a then a else -a) = 0 := by
  by_cases c : 0 < a
  · rw [if_pos c]; exact h
  · rw [if_neg c]; exact negz h
theorem absq (b : Int64) : (if 0 ≤ lg_cmp b 0 then b else -b) = (if 0 < b then b else -b) := by
  by_cases c : 0 < b
  · have z : (0 : Int64) ≤ b := by
      simp only [Int64.lt_iff_toInt_lt, Int64.le_iff_toInt_le] at c ⊢
      omega
    rw [if_pos ((lg_cmp_ge b 0).mpr z), if_pos c]
  · rw [if_neg c]
    by_cases d : b = 0
    · subst d
      decide
    · refine if_neg fun z => ?_
      have z := (lg_cmp_ge b 0).mp z
      simp only [Int64.lt_iff_toInt_lt, Int64.le_iff_toInt_le, ← Int64.toInt_inj] at c d z
      omega
theorem xw_217 {S : GS} (t0 t2 a b : Int64) (h : ¬ t2 = 0) : fX2_work_217 S t0 1000000000000 t2 a b = some (if lg_cmp t0 ((1000000000000 : Int64) / t2) ≤ 0 then a * b else (1000000000001 : Int64)) := by
  unfold fX2_work_217
  rw [if_pos h]
  split <;> rfl
theorem xw_202 {S : GS} (t0 a b : Int64) (h : ¬ a = 0) : fX2_work_202 S t0 a b = some (if lg_cmp t0 ((1000000000000 : Int64) / (if 0 < a then a else -a)) ≤ 0 then a * b else (1000000000001 : Int64)) := by
  unfold fX2_work_202
  rw [← absq a]
  by_cases c : 0 ≤ lg_cmp a 0
  · rw [if_pos c, if_pos c]
    exact xw_217 t0 a a b h
  · rw [if_neg c, if_neg c]
    exact xw_217 t0 (-a) a b (negz h)
theorem xw_7 {S : GS} (a b : Int64) : fX2_work S (nI 7) a b = some (gWv 7 a b) := by
  unfold fX2_work gWv
  rw [if_pos (show nI 7 = (7 : Int32) by decide), if_pos rfl]
  split <;> rfl
theorem xw_8 {S : GS} (a b : Int64) : fX2_work S (nI 8) a b = some (gWv 8 a b) := by
  unfold fX2_work gWv
  rw [if_neg (show ¬ nI 8 = (7 : Int32) by decide), if_pos (show nI 8 = (8 : Int32) by decide), if_neg (show ¬ (8 : Nat) = 7 by decide), if_pos rfl]
  split <;> rfl
theorem xw_9 {S : GS} (a b : Int64) : fX2_work S (nI 9) a b = some (gWv 9 a b) := by
  unfold fX2_work gWv
  rw [if_neg (show ¬ nI 9 = (7 : Int32) by decide), if_neg (show ¬ nI 9 = (8 : Int32) by decide), if_pos (show nI 9 = (9 : Int32) by decide), if_neg (show ¬ (9 : Nat) = 7 by decide), if_neg (show ¬ (9 : Nat) = 8 by decide), if_pos rfl]
  split <;> rfl
theorem xw_10 {S : GS} (a b : Int64) : fX2_work S (nI 10) a b = some (gWv 10 a b) := by
  unfold fX2_work gWv
  rw [if_neg (show ¬ nI 10 = (7 : Int32) by decide), if_neg (show ¬ nI 10 = (8 : Int32) by decide), if_neg (show ¬ nI 10 = (9 : Int32) by decide), if_pos (show nI 10 = (10 : Int32) by decide), if_neg (show ¬ (10 : Nat) = 7 by decide), if_neg (show ¬ (10 : Nat) = 8 by decide), if_neg (show ¬ (10 : Nat) = 9 by decide), if_pos rfl]
  split <;> rfl
theorem xw_11 {S : GS} (a b : Int64) : fX2_work S (nI 11) a b = some (gWv 11 a b) := by
  unfold fX2_work gWv
  rw [if_neg (show ¬ nI 11 = (7 : Int32) by decide), if_neg (show ¬ nI 11 = (8 : Int32) by decide), if_neg (show ¬ nI 11 = (9 : Int32) by decide), if_neg (show ¬ nI 11 = (10 : Int32) by decide), if_pos (show nI 11 = (11 : Int32) by decide), if_neg (show ¬ (11 : Nat) = 7 by decide), if_neg (show ¬ (11 : Nat) = 8 by decide), if_neg (show ¬ (11 : Nat) = 9 by decide), if_neg (show ¬ (11 : Nat) = 10 by decide), if_pos rfl]
  split <;> rfl
theorem xw_12 {S : GS} (a b : Int64) : fX2_work S (nI 12) a b = some (gWv 12 a b) := by
  unfold fX2_work gWv
  rw [if_neg (show ¬ nI 12 = (7 : Int32) by decide), if_neg (show ¬ nI 12 = (8 : Int32) by decide), if_neg (show ¬ nI 12 = (9 : Int32) by decide), if_neg (show ¬ nI 12 = (10 : Int32) by decide), if_neg (show ¬ nI 12 = (11 : Int32) by decide), if_pos (show nI 12 = (12 : Int32) by decide), if_neg (show ¬ (12 : Nat) = 7 by decide), if_neg (show ¬ (12 : Nat) = 8 by decide), if_neg (show ¬ (12 : Nat) = 9 by decide), if_neg (show ¬ (12 : Nat) = 10 by decide), if_neg (show ¬ (12 : Nat) = 11 by decide), if_pos rfl]
  split <;> rfl
theorem xw_13 {S : GS} (a b : Int64) : fX2_work S (nI 13) a b = some (gWv 13 a b) := by
  unfold fX2_work gWv
  rw [if_neg (show ¬ nI 13 = (7 : Int32) by decide), if_neg (show ¬ nI 13 = (8 : Int32) by decide), if_neg (show ¬ nI 13 = (9 : Int32) by decide), if_neg (show ¬ nI 13 = (10 : Int32) by decide), if_neg (show ¬ nI 13 = (11 : Int32) by decide), if_neg (show ¬ nI 13 = (12 : Int32) by decide), if_pos (show nI 13 = (13 : Int32) by decide), if_neg (show ¬ (13 : Nat) = 7 by decide), if_neg (show ¬ (13 : Nat) = 8 by decide), if_neg (show ¬ (13 : Nat) = 9 by decide), if_neg (show ¬ (13 : Nat) = 10 by decide), if_neg (show ¬ (13 : Nat) = 11 by decide), if_neg (show ¬ (13 : Nat) = 12 by decide), if_pos rfl]
theorem xw_14 {S : GS} (a b : Int64) : fX2_work S (nI 14) a b = some (gWv 14 a b) := by
  unfold fX2_work gWv
  rw [if_neg (show ¬ nI 14 = (7 : Int32) by decide), if_neg (show ¬ nI 14 = (8 : Int32) by decide), if_neg (show ¬ nI 14 = (9 : Int32) by decide), if_neg (show ¬ nI 14 = (10 : Int32) by decide), if_neg (show ¬ nI 14 = (11 : Int32) by decide), if_neg (show ¬ nI 14 = (12 : Int32) by decide), if_neg (show ¬ nI 14 = (13 : Int32) by decide), if_pos (show nI 14 = (14 : Int32) by decide), if_neg (show ¬ (14 : Nat) = 7 by decide), if_neg (show ¬ (14 : Nat) = 8 by decide), if_neg (show ¬ (14 : Nat) = 9 by decide), if_neg (show ¬ (14 : Nat) = 10 by decide), if_neg (show ¬ (14 : Nat) = 11 by decide), if_neg (show ¬ (14 : Nat) = 12 by decide), if_neg (show ¬ (14 : Nat) = 13 by decide), if_pos rfl]
theorem xw_15 {S : GS} (a b : Int64) : fX2_work S (nI 15) a b = some (gWv 15 a b) := by
  unfold fX2_work gWv
  rw [if_neg (show ¬ nI 15 = (7 : Int32) by decide), if_neg (show ¬ nI 15 = (8 : Int32) by decide), if_neg (show ¬ nI 15 = (9 : Int32) by decide), if_neg (show ¬ nI 15 = (10 : Int32) by decide), if_neg (show ¬ nI 15 = (11 : Int32) by decide), if_neg (show ¬ nI 15 = (12 : Int32) by decide), if_neg (show ¬ nI 15 = (13 : Int32) by decide), if_neg (show ¬ nI 15 = (14 : Int32) by decide), if_pos (show nI 15 = (15 : Int32) by decide), if_neg (show ¬ (15 : Nat) = 7 by decide), if_neg (show ¬ (15 : Nat) = 8 by decide), if_neg (show ¬ (15 : Nat) = 9 by decide), if_neg (show ¬ (15 : Nat) = 10 by decide), if_neg (show ¬ (15 : Nat) = 11 by decide), if_neg (show ¬ (15 : Nat) = 12 by decide), if_neg (show ¬ (15 : Nat) = 13 by decide), if_neg (show ¬ (15 : Nat) = 14 by decide), if_pos rfl]
  by_cases c : lg_cmp a 0 = 0
  · rw [if_pos c, if_pos c]
  · have hz : ¬ a = 0 := fun z => c ((lg_cmp_eq a 0).mpr z)
    rw [if_neg c, if_neg c, ← absq b]
    by_cases d : 0 ≤ lg_cmp b 0
    · rw [if_pos d, if_pos d]
      exact xw_202 b a b hz
    · rw [if_neg d, if_neg d]
      exact xw_202 (-b) a b hz
theorem xw_16 {S : GS} (a b : Int64) : fX2_work S (nI 16) a b = some (gWv 16 a b) := by
  unfold fX2_work gWv
  rw [if_neg (show ¬ nI 16 = (7 : Int32) by decide), if_neg (show ¬ nI 16 = (8 : Int32) by decide), if_neg (show ¬ nI 16 = (9 : Int32) by decide), if_neg (show ¬ nI 16 = (10 : Int32) by decide), if_neg (show ¬ nI 16 = (11 : Int32) by decide), if_neg (show ¬ nI 16 = (12 : Int32) by decide), if_neg (show ¬ nI 16 = (13 : Int32) by decide), if_neg (show ¬ nI 16 = (14 : Int32) by decide), if_neg (show ¬ nI 16 = (15 : Int32) by decide), if_pos (show nI 16 = (16 : Int32) by decide), if_neg (show ¬ (16 : Nat) = 7 by decide), if_neg (show ¬ (16 : Nat) = 8 by decide), if_neg (show ¬ (16 : Nat) = 9 by decide), if_neg (show ¬ (16 : Nat) = 10 by decide), if_neg (show ¬ (16 : Nat) = 11 by decide), if_neg (show ¬ (16 : Nat) = 12 by decide), if_neg (show ¬ (16 : Nat) = 13 by decide), if_neg (show ¬ (16 : Nat) = 14 by decide), if_neg (show ¬ (16 : Nat) = 15 by decide), if_pos rfl]
  by_cases c : lg_cmp b 0 = 0
  · rw [if_pos c, if_pos c]
  · rw [if_neg c, if_neg c, if_pos (fun z => c ((lg_cmp_eq b 0).mpr z))]
theorem xw_18 {S : GS} (a b : Int64) : fX2_work S (nI 18) a b = some (gWv 18 a b) := by
  unfold fX2_work gWv
  rw [if_neg (show ¬ nI 18 = (7 : Int32) by decide), if_neg (show ¬ nI 18 = (8 : Int32) by decide), if_neg (show ¬ nI 18 = (9 : Int32) by decide), if_neg (show ¬ nI 18 = (10 : Int32) by decide), if_neg (show ¬ nI 18 = (11 : Int32) by decide), if_neg (show ¬ nI 18 = (12 : Int32) by decide), if_neg (show ¬ nI 18 = (13 : Int32) by decide), if_neg (show ¬ nI 18 = (14 : Int32) by decide), if_neg (show ¬ nI 18 = (15 : Int32) by decide), if_neg (show ¬ nI 18 = (16 : Int32) by decide), if_neg (show ¬ nI 18 = (17 : Int32) by decide), if_pos (show nI 18 = (18 : Int32) by decide), if_neg (show ¬ (18 : Nat) = 7 by decide), if_neg (show ¬ (18 : Nat) = 8 by decide), if_neg (show ¬ (18 : Nat) = 9 by decide), if_neg (show ¬ (18 : Nat) = 10 by decide), if_neg (show ¬ (18 : Nat) = 11 by decide), if_neg (show ¬ (18 : Nat) = 12 by decide), if_neg (show ¬ (18 : Nat) = 13 by decide), if_neg (show ¬ (18 : Nat) = 14 by decide), if_neg (show ¬ (18 : Nat) = 15 by decide), if_neg (show ¬ (18 : Nat) = 16 by decide), if_pos rfl]
  by_cases c : lg_cmp a 0 = 0
  · rw [if_pos c, if_pos c]
  · rw [if_neg c, if_neg c]
    split <;> rfl
theorem xw_19 {S : GS} (a b : Int64) : fX2_work S (nI 19) a b = some (gWv 19 a b) := by
  unfold fX2_work gWv
  rw [if_neg (show ¬ nI 19 = (7 : Int32) by decide), if_neg (show ¬ nI 19 = (8 : Int32) by decide), if_neg (show ¬ nI 19 = (9 : Int32) by decide), if_neg (show ¬ nI 19 = (10 : Int32) by decide), if_neg (show ¬ nI 19 = (11 : Int32) by decide), if_neg (show ¬ nI 19 = (12 : Int32) by decide), if_neg (show ¬ nI 19 = (13 : Int32) by decide), if_neg (show ¬ nI 19 = (14 : Int32) by decide), if_neg (show ¬ nI 19 = (15 : Int32) by decide), if_neg (show ¬ nI 19 = (16 : Int32) by decide), if_neg (show ¬ nI 19 = (17 : Int32) by decide), if_neg (show ¬ nI 19 = (18 : Int32) by decide), if_pos (show nI 19 = (19 : Int32) by decide), if_neg (show ¬ (19 : Nat) = 7 by decide), if_neg (show ¬ (19 : Nat) = 8 by decide), if_neg (show ¬ (19 : Nat) = 9 by decide), if_neg (show ¬ (19 : Nat) = 10 by decide), if_neg (show ¬ (19 : Nat) = 11 by decide), if_neg (show ¬ (19 : Nat) = 12 by decide), if_neg (show ¬ (19 : Nat) = 13 by decide), if_neg (show ¬ (19 : Nat) = 14 by decide), if_neg (show ¬ (19 : Nat) = 15 by decide), if_neg (show ¬ (19 : Nat) = 16 by decide), if_neg (show ¬ (19 : Nat) = 18 by decide), if_pos rfl]
  by_cases c : lg_cmp a 0 = 0
  · rw [if_pos c, if_pos c]
    split <;> rfl
  · rw [if_neg c, if_neg c]
theorem x_work {S : GS} {t : Nat} (h1 : 7 ≤ t) (h2 : t ≤ 19) (h3 : t ≠ 17) (a b : Int64) : fX2_work S (nI t) a b = some (gWv t a b) := by
  rcases (show t = 7 ∨ t = 8 ∨ t = 9 ∨ t = 10 ∨ t = 11 ∨ t = 12 ∨ t = 13 ∨ t = 14 ∨ t = 15 ∨ t = 16 ∨ t = 18 ∨ t = 19 by omega) with rfl | rfl | rfl | rfl | rfl | rfl | rfl | rfl | rfl | rfl | rfl | rfl
  · exact xw_7 a b
  · exact xw_8 a b
  · exact xw_9 a b
  · exact xw_10 a b
  · exact xw_11 a b
  · exact xw_12 a b
  · exact xw_13 a b
  · exact xw_14 a b
  · exact xw_15 a b
  · exact xw_16 a b
  · exact xw_18 a b
  · exact xw_19 a b
theorem m_puts {S : GS} {h : Nat} (h28 : S.1 54 28 = nI h) (hh : h < 72) (v : Int64) : fX11_puts S v = some (gz (!(gBig v)), gsi (gsl S 62 h v) 54 28 (nI (h + 1))) := by
  unfold fX11_puts
  rw [h28, if_pos (gib_nI hh (by decide)), nI_clamp (by omega), glet_s]
  have e : (gsl S 62 h v).1 54 28 = nI h := h28
  rw [e, glet_s, nI_1]
  unfold gBig
  by_cases c1 : 0 < lg_cmp v 1000000000000
  · rw [if_pos c1, decide_eq_true ((lg_cmp_gt _ _).mp c1)]; rfl
  · rw [if_neg c1, decide_eq_false (fun z => c1 ((lg_cmp_gt _ _).mpr z))]
    by_cases c2 : lg_cmp v (-1000000000000) < 0
    · rw [if_pos c2, decide_eq_true ((lg_cmp_lt _ _).mp c2)]; rfl
    · rw [if_neg c2, decide_eq_false (fun z => c2 ((lg_cmp_lt _ _).mpr z))]; rfl
/-- the reference has worked a sign out -/
def gDn (S : GS) (h : Nat) (v : Int64) (r : Option (Int32 × GS)) : Prop := (gBig v = true → ∃ S', r = some (0, S') ∧ ME S S' ∧ S'.2.1 61 = S.2.1 61) ∧ (gBig v = false → ∃ S', r = some (1, S') ∧ ME S S' ∧ S'.2.1 61 = S.2.1 61 ∧ S'.1 54 28 = nI (h + 1) ∧ S'.2.1 62 h = v ∧ ∀ j, j < h → S'.2.1 62 j = S.2.1 62 j)
theorem me28 {S S1 : GS} (h : ME S S1) (x : Int32) : ME S (gsi S1 54 28 x) := ⟨fun c hc => by rw [gsi_ne hc]; exact h.1 c hc, fun j hj => by rw [gsi_r, if_neg (by rintro ⟨-, z⟩; exact hj z)]; exact h.2.1 j hj, h.2.2⟩
theorem dn_puts {S S2 : GS} {h : Nat} (hm : ME S S2) (h61 : S2.2.1 61 = S.2.1 61) (h62 : S2.2.1 62 = S.2.1 62) (h28 : S2.1 54 28 = nI h) (hh : h < 72) (v : Int64) {r : Option (Int32 × GS)} (hr : ∀ b S3, fX11_puts S2 v = some (gz b, S3) → r = some (gz b, S3)) : gDn S h v r := by
  have p := m_puts h28 hh v
  have q := hr _ _ p
  have m3 : ME S (gsi (gsl S2 62 h v) 54 28 (nI (h + 1))) := me28 (hm.sl _ _ _) _
  have l3 : (gsi (gsl S2 62 h v) 54 28 (nI (h + 1))).2.1 61 = S.2.1 61 := by
    rw [← h61]
    funext j
    simp [gsi, gsl]
  refine ⟨fun hb => ⟨_, by rw [q, hb]; rfl, m3, l3⟩, fun hb => ⟨_, by rw [q, hb]; rfl, m3, l3, by simp [gsi_r], by simp [gsi, gsl], fun j hj => ?_⟩⟩
  have : j ≠ h := by omega
  rw [← h62]
  simp [gsi, gsl, this]
theorem big_0 : gBig 0 = false := by decide
theorem big_1 : gBig 1 = false := by decide
theorem big_m : gBig 1000000000001 = true := by decide
theorem is_v {S : GS} (t : Int32) : fX11_is S t = some (if t = 0 then (0 : Int64) else 1) := by
  unfold fX11_is
  split <;> rfl
theorem dn_is {S S2 : GS} {h : Nat} (hm : ME S S2) (h61 : S2.2.1 61 = S.2.1 61) (h62 : S2.2.1 62 = S.2.1 62) (h28 : S2.1 54 28 = nI h) (hh : h < 72) (t : Int32) : gDn S h (if t = 0 then (0 : Int64) else 1) (gbv (fX11_is S2 t) fun r2 => gbd (fX11_puts S2 r2) fun r4 S5 => (if (r4 = 0 ∨ r4 = 1) then (some (r4, S5)) else none)) := by
  rw [is_v, gbv_s]
  exact dn_puts hm h61 h62 h28 hh _ (fun b S3 q => by rw [q, gbd_s, if_pos (gzb b)])
section
variable {S : GS} {h : Nat}
theorem m_does2 (h28 : S.1 54 28 = nI (h + 2)) (hh : h + 2 ≤ 72) {t : Nat} (ht : 7 ≤ t) (ht2 : t ≤ 19) (ht3 : t ≠ 17) : gDn S h (gWv t (S.2.1 62 h) (S.2.1 62 (h + 1))) (fX11_does S (gSg t)) := by
  have e2 : nI (h + 2) - (2 : Int32) = nI h := by
    have : nI (h + 2) = nI h + 2 := (nI_add h 2).symm
    rw [this]; simp
  have hm : ME S (gsi S 54 28 (nI h)) := me28 ME.rf _
  have s28 : (gsi S 54 28 (nI h)).1 54 28 = nI h := by simp [gsi_r]
  have h61 : (gsi S 54 28 (nI h)).2.1 61 = S.2.1 61 := rfl
  have h62 : (gsi S 54 28 (nI h)).2.1 62 = S.2.1 62 := rfl
  have start : gSg t ≠ 260 → fX11_does S (gSg t) = fX11_does S (gSg t) := fun _ => rfl
  rcases (show t = 7 ∨ t = 8 ∨ t = 9 ∨ t = 10 ∨ t = 11 ∨ t = 12 ∨ t = 13 ∨ t = 14 ∨ t = 15 ∨ t = 16 ∨ t = 18 ∨ t = 19 by omega) with rfl | rfl | rfl | rfl | rfl | rfl | rfl | rfl | rfl | rfl | rfl | rfl
  · rw [show gSg 7 = (60 : Int32) from rfl]
    unfold fX11_does gWv
    rw [if_neg (show ¬ (60 : Int32) = 260 by decide), h28, e2, glet_s, s28, if_pos (gib_nI (show h < 72 by omega) (by decide)), nI_clamp (show h < 2 ^ 31 by omega), h62, glet_s, nI_1, if_pos (gib_nI (show h + 1 < 72 by omega) (by decide)), nI_clamp (show h + 1 < 2 ^ 31 by omega), glet_s, if_neg (show ¬ (60 : Int32) = 42 by decide), if_neg (show ¬ (60 : Int32) = 43 by decide), if_neg (show ¬ (60 : Int32) = 45 by decide), if_pos (rfl : (60 : Int32) = 60), if_pos (rfl : (7 : Nat) = 7)]
    unfold fX11_does_241
    by_cases c : 0 ≤ lg_cmp (S.2.1 62 h) (S.2.1 62 (h + 1))
    · rw [if_pos c, if_pos c]; exact dn_is hm h61 h62 s28 (by omega) 0
    · rw [if_neg c, if_neg c]; exact dn_is hm h61 h62 s28 (by omega) 1
  · rw [show gSg 8 = (256 : Int32) from rfl]
    unfold fX11_does gWv
    rw [if_neg (show ¬ (256 : Int32) = 260 by decide), h28, e2, glet_s, s28, if_pos (gib_nI (show h < 72 by omega) (by decide)), nI_clamp (show h < 2 ^ 31 by omega), h62, glet_s, nI_1, if_pos (gib_nI (show h + 1 < 72 by omega) (by decide)), nI_clamp (show h + 1 < 2 ^ 31 by omega), glet_s, if_neg (show ¬ (256 : Int32) = 42 by decide), if_neg (show ¬ (256 : Int32) = 43 by decide), if_neg (show ¬ (256 : Int32) = 45 by decide), if_neg (show ¬ (256 : Int32) = 60 by decide), if_neg (show ¬ (256 : Int32) = 61 by decide), if_neg (show ¬ (256 : Int32) = 62 by decide), if_pos (rfl : (256 : Int32) = 256), if_neg (show ¬ (8 : Nat) = 7 by decide), if_pos (rfl : (8 : Nat) = 8)]
    unfold fX11_does_261
    by_cases c : 0 < lg_cmp (S.2.1 62 h) (S.2.1 62 (h + 1))
    · rw [if_pos c, if_pos c]; exact dn_is hm h61 h62 s28 (by omega) 0
    · rw [if_neg c, if_neg c]; exact dn_is hm h61 h62 s28 (by omega) 1
  · rw [show gSg 9 = (61 : Int32) from rfl]
    unfold fX11_does gWv
    rw [if_neg (show ¬ (61 : Int32) = 260 by decide), h28, e2, glet_s, s28, if_pos (gib_nI (show h < 72 by omega) (by decide)), nI_clamp (show h < 2 ^ 31 by omega), h62, glet_s, nI_1, if_pos (gib_nI (show h + 1 < 72 by omega) (by decide)), nI_clamp (show h + 1 < 2 ^ 31 by omega), glet_s, if_neg (show ¬ (61 : Int32) = 42 by decide), if_neg (show ¬ (61 : Int32) = 43 by decide), if_neg (show ¬ (61 : Int32) = 45 by decide), if_neg (show ¬ (61 : Int32) = 60 by decide), if_pos (rfl : (61 : Int32) = 61), if_neg (show ¬ (9 : Nat) = 7 by decide), if_neg (show ¬ (9 : Nat) = 8 by decide), if_pos (rfl : (9 : Nat) = 9)]
    unfold fX11_does_281
    by_cases c : lg_cmp (S.2.1 62 h) (S.2.1 62 (h + 1)) = 0
    · rw [if_pos c, if_pos c]; exact dn_is hm h61 h62 s28 (by omega) 1
    · rw [if_neg c, if_neg c]; exact dn_is hm h61 h62 s28 (by omega) 0
  · rw [show gSg 10 = (257 : Int32) from rfl]
    unfold fX11_does gWv
    rw [if_neg (show ¬ (257 : Int32) = 260 by decide), h28, e2, glet_s, s28, if_pos (gib_nI (show h < 72 by omega) (by decide)), nI_clamp (show h < 2 ^ 31 by omega), h62, glet_s, nI_1, if_pos (gib_nI (show h + 1 < 72 by omega) (by decide)), nI_clamp (show h + 1 < 2 ^ 31 by omega), glet_s, if_neg (show ¬ (257 : Int32) = 42 by decide), if_neg (show ¬ (257 : Int32) = 43 by decide), if_neg (show ¬ (257 : Int32) = 45 by decide), if_neg (show ¬ (257 : Int32) = 60 by decide), if_neg (show ¬ (257 : Int32) = 61 by decide), if_neg (show ¬ (257 : Int32) = 62 by decide), if_neg (show ¬ (257 : Int32) = 256 by decide), if_pos (rfl : (257 : Int32) = 257), if_neg (show ¬ (10 : Nat) = 7 by decide), if_neg (show ¬ (10 : Nat) = 8 by decide), if_neg (show ¬ (10 : Nat) = 9 by decide), if_pos (rfl : (10 : Nat) = 10)]
    unfold fX11_does_301
    by_cases c : lg_cmp (S.2.1 62 h) (S.2.1 62 (h + 1)) = 0
    · rw [if_pos c, if_pos c]; exact dn_is hm h61 h62 s28 (by omega) 0
    · rw [if_neg c, if_neg c]; exact dn_is hm h61 h62 s28 (by omega) 1
  · rw [show gSg 11 = (258 : Int32) from rfl]
    unfold fX11_does gWv
    rw [if_neg (show ¬ (258 : Int32) = 260 by decide), h28, e2, glet_s, s28, if_pos (gib_nI (show h < 72 by omega) (by decide)), nI_clamp (show h < 2 ^ 31 by omega), h62, glet_s, nI_1, if_pos (gib_nI (show h + 1 < 72 by omega) (by decide)), nI_clamp (show h + 1 < 2 ^ 31 by omega), glet_s, if_neg (show ¬ (258 : Int32) = 42 by decide), if_neg (show ¬ (258 : Int32) = 43 by decide), if_neg (show ¬ (258 : Int32) = 45 by decide), if_neg (show ¬ (258 : Int32) = 60 by decide), if_neg (show ¬ (258 : Int32) = 61 by decide), if_neg (show ¬ (258 : Int32) = 62 by decide), if_neg (show ¬ (258 : Int32) = 256 by decide), if_neg (show ¬ (258 : Int32) = 257 by decide), if_pos (rfl : (258 : Int32) = 258), if_neg (show ¬ (11 : Nat) = 7 by decide), if_neg (show ¬ (11 : Nat) = 8 by decide), if_neg (show ¬ (11 : Nat) = 9 by decide), if_neg (show ¬ (11 : Nat) = 10 by decide), if_pos (rfl : (11 : Nat) = 11)]
    unfold fX11_does_321
    by_cases c : lg_cmp (S.2.1 62 h) (S.2.1 62 (h + 1)) < 0
    · rw [if_pos c, if_pos c]; exact dn_is hm h61 h62 s28 (by omega) 0
    · rw [if_neg c, if_neg c]; exact dn_is hm h61 h62 s28 (by omega) 1
  · rw [show gSg 12 = (62 : Int32) from rfl]
    unfold fX11_does gWv
    rw [if_neg (show ¬ (62 : Int32) = 260 by decide), h28, e2, glet_s, s28, if_pos (gib_nI (show h < 72 by omega) (by decide)), nI_clamp (show h < 2 ^ 31 by omega), h62, glet_s, nI_1, if_pos (gib_nI (show h + 1 < 72 by omega) (by decide)), nI_clamp (show h + 1 < 2 ^ 31 by omega), glet_s, if_neg (show ¬ (62 : Int32) = 42 by decide), if_neg (show ¬ (62 : Int32) = 43 by decide), if_neg (show ¬ (62 : Int32) = 45 by decide), if_neg (show ¬ (62 : Int32) = 60 by decide), if_neg (show ¬ (62 : Int32) = 61 by decide), if_pos (rfl : (62 : Int32) = 62), if_neg (show ¬ (12 : Nat) = 7 by decide), if_neg (show ¬ (12 : Nat) = 8 by decide), if_neg (show ¬ (12 : Nat) = 9 by decide), if_neg (show ¬ (12 : Nat) = 10 by decide), if_neg (show ¬ (12 : Nat) = 11 by decide), if_pos (rfl : (12 : Nat) = 12)]
    unfold fX11_does_341
    by_cases c : lg_cmp (S.2.1 62 h) (S.2.1 62 (h + 1)) ≤ 0
    · rw [if_pos c, if_pos c]; exact dn_is hm h61 h62 s28 (by omega) 0
    · rw [if_neg c, if_neg c]; exact dn_is hm h61 h62 s28 (by omega) 1
  · rw [show gSg 13 = (43 : Int32) from rfl]
    unfold fX11_does gWv
    rw [if_neg (show ¬ (43 : Int32) = 260 by decide), h28, e2, glet_s, s28, if_pos (gib_nI (show h < 72 by omega) (by decide)), nI_clamp (show h < 2 ^ 31 by omega), h62, glet_s, nI_1, if_pos (gib_nI (show h + 1 < 72 by omega) (by decide)), nI_clamp (show h + 1 < 2 ^ 31 by omega), glet_s, if_neg (show ¬ (43 : Int32) = 42 by decide), if_pos (rfl : (43 : Int32) = 43), if_neg (show ¬ (13 : Nat) = 7 by decide), if_neg (show ¬ (13 : Nat) = 8 by decide), if_neg (show ¬ (13 : Nat) = 9 by decide), if_neg (show ¬ (13 : Nat) = 10 by decide), if_neg (show ¬ (13 : Nat) = 11 by decide), if_neg (show ¬ (13 : Nat) = 12 by decide), if_pos (rfl : (13 : Nat) = 13)]
    exact dn_puts hm h61 h62 s28 (by omega) _ (fun b S3 q => by rw [q, gbd_s, if_pos (gzb b)])
  · rw [show gSg 14 = (45 : Int32) from rfl]
    unfold fX11_does gWv
    rw [if_neg (show ¬ (45 : Int32) = 260 by decide), h28, e2, glet_s, s28, if_pos (gib_nI (show h < 72 by omega) (by decide)), nI_clamp (show h < 2 ^ 31 by omega), h62, glet_s, nI_1, if_pos (gib_nI (show h + 1 < 72 by omega) (by decide)), nI_clamp (show h + 1 < 2 ^ 31 by omega), glet_s, if_neg (show ¬ (45 : Int32) = 42 by decide), if_neg (show ¬ (45 : Int32) = 43 by decide), if_pos (rfl : (45 : Int32) = 45), if_neg (show ¬ (14 : Nat) = 7 by decide), if_neg (show ¬ (14 : Nat) = 8 by decide), if_neg (show ¬ (14 : Nat) = 9 by decide), if_neg (show ¬ (14 : Nat) = 10 by decide), if_neg (show ¬ (14 : Nat) = 11 by decide), if_neg (show ¬ (14 : Nat) = 12 by decide), if_neg (show ¬ (14 : Nat) = 13 by decide), if_pos (rfl : (14 : Nat) = 14)]
    exact dn_puts hm h61 h62 s28 (by omega) _ (fun b S3 q => by rw [q, gbd_s, if_pos (gzb b)])
  · rw [show gSg 15 = (42 : Int32) from rfl]
    unfold fX11_does gWv
    rw [if_neg (show ¬ (42 : Int32) = 260 by decide), h28, e2, glet_s, s28, if_pos (gib_nI (show h < 72 by omega) (by decide)), nI_clamp (show h < 2 ^ 31 by omega), h62, glet_s, nI_1, if_pos (gib_nI (show h + 1 < 72 by omega) (by decide)), nI_clamp (show h + 1 < 2 ^ 31 by omega), glet_s, if_pos (rfl : (42 : Int32) = 42), if_neg (show ¬ (15 : Nat) = 7 by decide), if_neg (show ¬ (15 : Nat) = 8 by decide), if_neg (show ¬ (15 : Nat) = 9 by decide), if_neg (show ¬ (15 : Nat) = 10 by decide), if_neg (show ¬ (15 : Nat) = 11 by decide), if_neg (show ¬ (15 : Nat) = 12 by decide), if_neg (show ¬ (15 : Nat) = 13 by decide), if_neg (show ¬ (15 : Nat) = 14 by decide), if_pos (rfl : (15 : Nat) = 15)]
    unfold fX11_does_389
    by_cases c : lg_cmp (S.2.1 62 h) 0 = 0
    · rw [if_pos c, if_pos c]
      exact dn_puts hm h61 h62 s28 (by omega) _ (fun b S3 q => by rw [q, gbd_s]; cases b <;> simp [gz])
    · rw [if_neg c, if_neg c, if_pos (absz (fun z => c ((lg_cmp_eq _ 0).mpr z)))]
      by_cases c2 : lg_cmp (if 0 < S.2.1 62 (h + 1) then S.2.1 62 (h + 1) else -(S.2.1 62 (h + 1))) ((1000000000000 : Int64) / (if 0 < S.2.1 62 h then S.2.1 62 h else -(S.2.1 62 h))) ≤ 0
      · rw [if_pos c2, if_neg (fun z => (fa_of_lt z).2.1 c2)]
        exact dn_puts hm h61 h62 s28 (by omega) _ (fun b S3 q => by rw [q, gbd_s]; cases b <;> simp [gz])
      · rw [if_neg c2, if_pos (fa_of_nle c2)]
        exact ⟨fun _ => ⟨_, rfl, hm, h61⟩, fun z => by rw [big_m] at z; cases z⟩
  · rw [show gSg 16 = (47 : Int32) from rfl]
    unfold fX11_does gWv
    rw [if_neg (show ¬ (47 : Int32) = 260 by decide), h28, e2, glet_s, s28, if_pos (gib_nI (show h < 72 by omega) (by decide)), nI_clamp (show h < 2 ^ 31 by omega), h62, glet_s, nI_1, if_pos (gib_nI (show h + 1 < 72 by omega) (by decide)), nI_clamp (show h + 1 < 2 ^ 31 by omega), glet_s, if_neg (show ¬ (47 : Int32) = 42 by decide), if_neg (show ¬ (47 : Int32) = 43 by decide), if_neg (show ¬ (47 : Int32) = 45 by decide), if_neg (show ¬ (47 : Int32) = 60 by decide), if_neg (show ¬ (47 : Int32) = 61 by decide), if_neg (show ¬ (47 : Int32) = 62 by decide), if_neg (show ¬ (47 : Int32) = 256 by decide), if_neg (show ¬ (47 : Int32) = 257 by decide), if_neg (show ¬ (47 : Int32) = 258 by decide), if_neg (show ¬ (47 : Int32) = 261 by decide), if_neg (show ¬ (47 : Int32) = 262 by decide), if_neg (show ¬ (16 : Nat) = 7 by decide), if_neg (show ¬ (16 : Nat) = 8 by decide), if_neg (show ¬ (16 : Nat) = 9 by decide), if_neg (show ¬ (16 : Nat) = 10 by decide), if_neg (show ¬ (16 : Nat) = 11 by decide), if_neg (show ¬ (16 : Nat) = 12 by decide), if_neg (show ¬ (16 : Nat) = 13 by decide), if_neg (show ¬ (16 : Nat) = 14 by decide), if_neg (show ¬ (16 : Nat) = 15 by decide), if_pos (rfl : (16 : Nat) = 16)]
    by_cases c : lg_cmp (S.2.1 62 (h + 1)) 0 = 0
    · rw [if_pos c, if_pos c]
      exact ⟨fun _ => ⟨_, rfl, hm, h61⟩, fun z => by rw [big_m] at z; cases z⟩
    · rw [if_neg c, if_neg c, if_pos (fun z => c ((lg_cmp_eq _ 0).mpr z))]
      exact dn_puts hm h61 h62 s28 (by omega) _ (fun b S3 q => by rw [q, gbd_s]; cases b <;> simp [gz])
  · rw [show gSg 18 = (261 : Int32) from rfl]
    unfold fX11_does gWv
    rw [if_neg (show ¬ (261 : Int32) = 260 by decide), h28, e2, glet_s, s28, if_pos (gib_nI (show h < 72 by omega) (by decide)), nI_clamp (show h < 2 ^ 31 by omega), h62, glet_s, nI_1, if_pos (gib_nI (show h + 1 < 72 by omega) (by decide)), nI_clamp (show h + 1 < 2 ^ 31 by omega), glet_s, if_neg (show ¬ (261 : Int32) = 42 by decide), if_neg (show ¬ (261 : Int32) = 43 by decide), if_neg (show ¬ (261 : Int32) = 45 by decide), if_neg (show ¬ (261 : Int32) = 60 by decide), if_neg (show ¬ (261 : Int32) = 61 by decide), if_neg (show ¬ (261 : Int32) = 62 by decide), if_neg (show ¬ (261 : Int32) = 256 by decide), if_neg (show ¬ (261 : Int32) = 257 by decide), if_neg (show ¬ (261 : Int32) = 258 by decide), if_pos (rfl : (261 : Int32) = 261), if_neg (show ¬ (18 : Nat) = 7 by decide), if_neg (show ¬ (18 : Nat) = 8 by decide), if_neg (show ¬ (18 : Nat) = 9 by decide), if_neg (show ¬ (18 : Nat) = 10 by decide), if_neg (show ¬ (18 : Nat) = 11 by decide), if_neg (show ¬ (18 : Nat) = 12 by decide), if_neg (show ¬ (18 : Nat) = 13 by decide), if_neg (show ¬ (18 : Nat) = 14 by decide), if_neg (show ¬ (18 : Nat) = 15 by decide), if_neg (show ¬ (18 : Nat) = 16 by decide), if_pos (rfl : (18 : Nat) = 18)]
    unfold fX11_does_220 fX11_does_221
    by_cases c : lg_cmp (S.2.1 62 h) 0 = 0
    · rw [if_pos c, if_pos c]; exact dn_is hm h61 h62 s28 (by omega) 0
    · rw [if_neg c, if_neg c]
      by_cases c2 : lg_cmp (S.2.1 62 (h + 1)) 0 = 0
      · rw [if_pos c2, if_pos c2]; exact dn_is hm h61 h62 s28 (by omega) 0
      · rw [if_neg c2, if_neg c2]; exact dn_is hm h61 h62 s28 (by omega) 1
  · rw [show gSg 19 = (262 : Int32) from rfl]
    unfold fX11_does gWv
    rw [if_neg (show ¬ (262 : Int32) = 260 by decide), h28, e2, glet_s, s28, if_pos (gib_nI (show h < 72 by omega) (by decide)), nI_clamp (show h < 2 ^ 31 by omega), h62, glet_s, nI_1, if_pos (gib_nI (show h + 1 < 72 by omega) (by decide)), nI_clamp (show h + 1 < 2 ^ 31 by omega), glet_s, if_neg (show ¬ (262 : Int32) = 42 by decide), if_neg (show ¬ (262 : Int32) = 43 by decide), if_neg (show ¬ (262 : Int32) = 45 by decide), if_neg (show ¬ (262 : Int32) = 60 by decide), if_neg (show ¬ (262 : Int32) = 61 by decide), if_neg (show ¬ (262 : Int32) = 62 by decide), if_neg (show ¬ (262 : Int32) = 256 by decide), if_neg (show ¬ (262 : Int32) = 257 by decide), if_neg (show ¬ (262 : Int32) = 258 by decide), if_neg (show ¬ (262 : Int32) = 261 by decide), if_pos (rfl : (262 : Int32) = 262), if_neg (show ¬ (19 : Nat) = 7 by decide), if_neg (show ¬ (19 : Nat) = 8 by decide), if_neg (show ¬ (19 : Nat) = 9 by decide), if_neg (show ¬ (19 : Nat) = 10 by decide), if_neg (show ¬ (19 : Nat) = 11 by decide), if_neg (show ¬ (19 : Nat) = 12 by decide), if_neg (show ¬ (19 : Nat) = 13 by decide), if_neg (show ¬ (19 : Nat) = 14 by decide), if_neg (show ¬ (19 : Nat) = 15 by decide), if_neg (show ¬ (19 : Nat) = 16 by decide), if_neg (show ¬ (19 : Nat) = 18 by decide), if_pos (rfl : (19 : Nat) = 19)]
    unfold fX11_does_190 fX11_does_195
    by_cases c : lg_cmp (S.2.1 62 h) 0 = 0
    · rw [if_pos c, if_pos c]
      by_cases c2 : lg_cmp (S.2.1 62 (h + 1)) 0 = 0
      · rw [if_pos c2, if_pos c2]; exact dn_is hm h61 h62 s28 (by omega) 0
      · rw [if_neg c2, if_neg c2]; exact dn_is hm h61 h62 s28 (by omega) 1
    · rw [if_neg c, if_neg c]; exact dn_is hm h61 h62 s28 (by omega) 1
end

/-! bits; oppose; feed -/
theorem b_1 (i : Nat) : bt 1 i = decide (i = 0) := by
  by_cases h : i < 32
  · exact (show ∀ i, i < 32 → bt 1 i = decide (i = 0) by decide +kernel) i h
  · rw [b_big (by omega)]; simp; omega
theorem b_low0 (x : Int32) : (x &&& 1 = 0) = (bt x 0 = false) := by
  apply propext
  constructor
  · intro h
    have := congrArg (fun y => bt y 0) h
    simpa [b_and, b_1, b_0] using this
  · intro h
    apply b_ext
    intro i hi
    rw [b_and, b_1, b_0]
    by_cases hi0 : i = 0
    · subst hi0; simp [h]
    · simp [hi0]
theorem b_low1 (x : Int32) : (x &&& 1 = 1) = (bt x 0 = true) := by
  apply propext
  constructor
  · intro h
    have := congrArg (fun y => bt y 0) h
    simpa [b_and, b_1] using this
  · intro h
    apply b_ext
    intro i hi
    rw [b_and, b_1]
    by_cases hi0 : i = 0
    · subst hi0; simp [h]
    · simp [hi0]
theorem b_has (x : Int32) {j : Nat} (hj : j < 32) : (gush x (nI j) &&& 1 = 0) = (bt x j = false) := by
  unfold gush
  rw [b_low0, b_ushr j hj x 0]
  rfl
theorem b_tst (x : Int32) {j : Nat} (hj : j < 32) : ((x >>> (nI j &&& 31)) &&& 1 = 1) = (bt x j = true) := by
  rw [b_low1, b_sshr j hj x (by decide)]
  simp [hj]
theorem b_tst0 (x : Int32) {j : Nat} (hj : j < 32) : ((x >>> (nI j &&& 31)) &&& 1 = 0) = (bt x j = false) := by
  rw [b_low0, b_sshr j hj x (by decide)]
  simp [hj]
theorem x_has {S : GS} (x : Int32) {j : Nat} (hj : j < 32) : fX10_has S x (nI j) = some (gz (bt x j)) := by
  unfold fX10_has
  simp only [b_has x hj]
  cases bt x j <;> simp [gz]
theorem b_one {j : Nat} (hj : j < 32) {i : Nat} (hi : i < 32) : bt ((1 : Int32) <<< (nI j &&& 31)) i = decide (i = j) := by
  rw [b_shl j hj 1 hi, b_1]
  by_cases h : i = j
  · subst h; simp
  · by_cases h2 : j ≤ i
    · simp [h2, h]; omega
    · simp [h2, h]
theorem gzb (b : Bool) : (gz b = 0 ∨ gz b = 1) := by cases b <;> simp [gz]
theorem call_oppose {S : GS} (h : IV S) (a1 a2 a3 : Int32) : Both S (fun S => fX10_oppose S a1 a2 a3) (fun S => fX11_oppose S a1 a2 a3) := by
  obtain ⟨td, nt, nc, np, nk, nn, ht, hc, hp, hk, hn, hr, hf⟩ := id h
  obtain ⟨p1, p2, p3, p4⟩ := id hp
  have hno : fX10_oppose S a1 a2 a3 = some (0, S) → fX11_oppose S a1 a2 a3 = some (0, gsi S 54 0 0) → Both S (fun S => fX10_oppose S a1 a2 a3) (fun S => fX11_oppose S a1 a2 a3) := fun h1 h2 => ⟨0, S, _, h1, h2, IV_thr h 0⟩
  have mp := fun (S1 : GS) (hS1 : ∀ k j, 54 ≤ k → S1.1 k j = S.1 k j) (a : Int32) => m_isPoint (S := gsi S1 54 0 0) (a := a) (n := np) (by simp [gsi, hS1, p2]) (by omega)
  have xp := fun (a : Int32) => x_isPoint (S := S) (a := a) p1 (by omega)
  have rf : ∀ k j, 54 ≤ k → S.1 k j = S.1 k j := fun _ _ _ => rfl
  cases c1 : gib a1 np
  · exact hno (by simp [fX10_oppose, xp, c1, gz, gbv]) (by simp [fX11_oppose, mp S rf, c1, gz, gbv, glet])
  cases c2 : gib a2 np
  · exact hno (by simp [fX10_oppose, xp, c1, c2, gz, gbv]) (by simp [fX11_oppose, mp S rf, c1, c2, gz, gbv, glet])
  by_cases c3 : a1 = a2
  · exact hno (by simp [fX10_oppose, xp, c2, gz, gbv, c3]) (by simp [fX11_oppose, mp S rf, c2, gz, gbv, glet, c3])
  have g1 : gib a1 12 = true := gib_ge c1 p3
  have g2 : gib a2 12 = true := gib_ge c2 p3
  obtain ⟨i, hi, rfl⟩ := gib_ex c1 (by omega)
  obtain ⟨j, hj, rfl⟩ := gib_ex c2 (by omega)
  have ei : (nI i).toNatClampNeg = i := nI_clamp (by omega)
  have ej : (nI j).toNatClampNeg = j := nI_clamp (by omega)
  have hij : i ≠ j := fun q => c3 (by rw [q])
  have ao : fX5_areOpposed S (nI i) (nI j) = some (gz (bt (S.1 6 i) j)) := by
    unfold fX5_areOpposed
    rw [if_pos g1, ei, x_has _ (by omega), gbv_s, if_pos (gzb _)]
  have mo : ∀ S1 : GS, (∀ k j, 54 ≤ k → S1.1 k j = S.1 k j) → fX11_oppose S1 (nI i) (nI j) a3 = fX11_oppose_45 (gsi S1 54 0 0) (gz (bt (S.1 6 i) j)) (nI i) (nI j) a3 := by
    intro S1 hS1
    have : (gsi S1 54 0 0).1 65 i = S.1 6 i := by simp [gsi_r, hS1, p4]
    simp only [fX11_oppose, glet_s, mp S1 hS1, c1, c2, gbv_s, if_neg c3, g1, ei, this, b_tst _ (show j < 32 by omega)]
    cases bt (S.1 6 i) j <;> simp [gz]
  by_cases c4 : gz (bt (S.1 6 i) j) = a3
  · exact hno (by simp [fX10_oppose, xp, c1, c2, gbv_s, gz_t, c3, ao, c4]) (by rw [mo S rf, fX11_oppose_45, if_pos c4])
  obtain ⟨u1, hu1⟩ : ∃ y, y = (S.1 6 i) ^^^ ((1 : Int32) <<< (nI j &&& 31)) := ⟨_, rfl⟩
  obtain ⟨u2, hu2⟩ : ∃ y, y = (S.1 6 j) ^^^ ((1 : Int32) <<< (nI i &&& 31)) := ⟨_, rfl⟩
  refine ⟨1, gsi (gsi S 6 i u1) 6 j u2, gsi (gsi (gsi (gsi (gsi S 6 i u1) 6 j u2) 54 0 0) 65 i u1) 65 j u2, ?_, ?_, ?_⟩
  · have : fX5_turnOpposed S (nI i) (nI j) = some ((), gsi (gsi S 6 i u1) 6 j u2) := by
      simp [fX5_turnOpposed, g1, g2, ei, ej, glet_s, gsi_r, hij.symm, hu1, hu2]
    simp [fX10_oppose, xp, c1, c2, gbv_s, gz_t, c3, ao, c4, this, gbd]
  · have hS1 : ∀ k' j', 54 ≤ k' → (gsi (gsi S 6 i u1) 6 j u2).1 k' j' = S.1 k' j' := by
      intro k' j' hk'
      have : k' ≠ 6 := by omega
      simp [gsi_r, this]
    show fX11_oppose _ _ _ _ = _
    rw [mo _ hS1, fX11_oppose_45, if_neg c4]
    generalize gsi (gsi S 6 i u1) 6 j u2 = S1 at hS1 ⊢
    simp [g1, g2, ei, ej, glet_s, gsi_r, hij.symm, hS1, p4, hu1, hu2]
  · refine ⟨td, nt, nc, np, nk, nn, ?_, ?_, ?_, ?_, ?_, ?_, ?_⟩
    · unfold IVt at ht ⊢; simpa [gsi] using ht
    · unfold IVc at hc ⊢; simpa [gsi] using hc
    · unfold IVp
      refine ⟨by simpa [gsi] using p1, by simpa [gsi] using p2, p3, fun b => ?_⟩
      simp [gsi]
      by_cases b1 : b = j
      · simp [b1]
      · by_cases b2 : b = i
        · simp [b2, hij]
        · simp [b1, b2, p4]
    · unfold IVk gLat gOi at hk ⊢; simpa [gsi] using hk
    · unfold IVn IVn1 gLat at hn ⊢; simpa [gsi] using hn
    · obtain ⟨hr0, hr1⟩ := hr
      refine ⟨hr0, ?_⟩
      unfold IVl at hr1 ⊢
      show _ ∧ _
      dsimp only [gsi]
      rcases hr0 with ⟨z, -⟩ | ⟨z, -⟩ <;> rw [z] at hr1 ⊢ <;> simpa [gsi] using hr1
    · unfold IVf at hf ⊢; simpa [gsi] using hf
/-- a byte of a number -/
def gB (a : Int32) (s : Nat) : Int32 := (a >>> (nI s &&& 31)).toInt8.toInt32
theorem gB_low (a : Int32) (s : Nat) : gB a s &&& 255 = (a >>> (nI s &&& 31)) &&& 255 := by
  unfold gB
  generalize a >>> (nI s &&& 31) = x
  apply b_ext
  intro i hi
  rw [b_and, b_and, b_255]
  by_cases h : i < 8
  · have : bt x.toInt8.toInt32 i = bt x i := by
      unfold bt
      rw [Int8.toBitVec_toInt32, Int32.toBitVec_toInt8]
      have hi2 : i < 32 := hi
      simp [BitVec.getLsbD_signExtend, BitVec.getElem_signExtend, h, hi2]
    rw [this]
  · simp [h]
theorem tape_step (n : Nat) (S : GS) {t s : Nat} (a : Int32) (h : S.1 0 1 = nI t) (ht : t < 400) (hs : s < 32) : fX10_tapeFour_3 (n + 1) S a (nI s) = fX10_tapeFour_3 n (gsi (gsi S 1 t (gB a s)) 0 1 (nI (t + 1))) a (nI s + (-8 : Int32)) := by
  rw [fX10_tapeFour_3]
  have c1 : ¬ nI s < 0 := nI_pos (by omega)
  have c2 : ¬ (400 : Int32) ≤ nI t := nI_ge (b := 400) (a := t) ht (by decide)
  have g : gib (nI t) 400 = true := gib_nI ht (by decide)
  have e : (nI t).toNatClampNeg = t := nI_clamp (by omega)
  simp only [h, if_neg c1, if_neg c2, g, e, glet_s, if_true, pk_vb]
  have e2 : (gsi S 1 t ((a >>> (nI s &&& 31)).toInt8.toInt32)).1 0 1 = nI t := by simp [gsi_r, h]
  rw [e2, nI_1]
  rfl
def gTF (F : Nat → Int32) (t : Nat) (a : Int32) : Nat → Int32 := fun i => if i = t + 3 then gB a 0 else if i = t + 2 then gB a 8 else if i = t + 1 then gB a 16 else if i = t then gB a 24 else F i
theorem x_tape4 {S : GS} {t : Nat} (a : Int32) (h : S.1 0 1 = nI t) (ht : t + 4 ≤ 400) : fX10_tapeFour S a = some ((), gsi (gc S 1 (gTF (S.1 1) t a)) 0 1 (nI (t + 4))) := by
  unfold fX10_tapeFour
  rw [glet_s, show FU = 9995 + 1 + 1 + 1 + 1 + 1 from rfl, show (24 : Int32) = nI 24 from rfl]
  rw [tape_step _ S a h (by omega) (by decide), show nI 24 + (-8 : Int32) = nI 16 from by decide]
  rw [tape_step _ _ a (t := t + 1) (by simp [gsi_r]) (by omega) (by decide), show nI 16 + (-8 : Int32) = nI 8 from by decide]
  rw [tape_step _ _ a (t := t + 2) (by simp [gsi_r]) (by omega) (by decide), show nI 8 + (-8 : Int32) = nI 0 from by decide]
  rw [tape_step _ _ a (t := t + 3) (by simp [gsi_r]) (by omega) (by decide)]
  rw [fX10_tapeFour_3, if_pos (by decide)]
  congr 2
  unfold gsi gc gTF
  congr 1
  funext x y
  by_cases h0 : x = 0
  · subst h0
    by_cases hy : y = 1 <;> simp [hy]
  · by_cases h1 : x = 1
    · subst h1
      simp
    · simp [h0, h1]
/-- the reference's tape behind k of the twenty bytes -/
def gSel (a b c d e : Int32) (k : Nat) : Int32 := if k < 4 then a else if k < 8 then b else if k < 12 then c else if k < 16 then d else e
def gMT (F : Nat → Int32) (t : Nat) (a b c d e : Int32) (k : Nat) : Nat → Int32 := fun i => if t ≤ i ∧ i < t + k then (gSel a b c d e (i - t) >>> (nI (24 - 8 * ((i - t) % 4)) &&& 31)) &&& 255 else F i
theorem m_feed_loop {S : GS} {t : Nat} (a b c d e : Int32) (h : S.1 54 2 = nI t) (ht : t + 20 ≤ 400) : ∀ r k n, k + r = 20 → r < n → fX11_feed_20 n (gc S 55 (gMT (S.1 55) t a b c d e k)) a b c d e (nI k) = some (nI (t + 20), gsi (gc S 55 (gMT (S.1 55) t a b c d e 20)) 54 2 (nI (t + 20))) := by
  intro r
  induction r with
  | zero =>
    intro k n hk hn
    obtain ⟨n, rfl⟩ := Nat.exists_eq_add_of_lt hn
    have : k = 20 := by omega
    subst this
    rw [show 0 + n + 1 = n + 1 by omega, fX11_feed_20, if_pos (by decide)]
    have e2 : (gc S 55 (gMT (S.1 55) t a b c d e 20)).1 54 2 = nI t := by simp [gc_r, h]
    simp only [glet_s, e2, show (20 : Int32) = nI 20 from rfl, nI_add]
    simp [gsi_r]
  | succ r ih =>
    intro k n hk hn
    obtain ⟨n, rfl⟩ := Nat.exists_eq_add_of_lt hn
    rw [show r + 1 + n + 1 = (r + 1 + n) + 1 from rfl, fX11_feed_20, if_neg (show ¬ (20 : Int32) ≤ nI k from nI_ge (b := 20) (a := k) (by omega) (by decide))]
    have step : ∀ v : Int32, v = gSel a b c d e k → fX11_feed_73 (fX11_feed_20 (r + 1 + n)) (gc S 55 (gMT (S.1 55) t a b c d e k)) v a b c d e (nI k) = some (nI (t + 20), gsi (gc S 55 (gMT (S.1 55) t a b c d e 20)) 54 2 (nI (t + 20))) := by
      intro v hv
      unfold fX11_feed_73
      have e2 : (gc S 55 (gMT (S.1 55) t a b c d e k)).1 54 2 = nI t := by simp [gc_r, h]
      have g : gib (nI (t + k)) 400 = true := gib_nI (by omega) (by decide)
      have e3 : (nI (t + k)).toNatClampNeg = t + k := nI_clamp (by omega)
      have e4 : nI k - nI k / (4 : Int32) * (4 : Int32) = nI (k % 4) := pk_rem (d := 4) (by omega) (by decide) (by decide)
      have e5 : (24 : Int32) - (8 : Int32) * nI (k % 4) = nI (24 - 8 * (k % 4)) := by
        rw [show (8 : Int32) = nI 8 from rfl, pk_mul, show (24 : Int32) = nI 24 from rfl, pk_sub (by omega)]
      simp only [e2, nI_add, g, e3, glet_s, if_true, nI_1, gsi_gc2, e4, e5]
      have e6 : upd (gMT (S.1 55) t a b c d e k) (t + k) ((v >>> (nI (24 - 8 * (k % 4)) &&& 31)) &&& 255) = gMT (S.1 55) t a b c d e (k + 1) := by
        funext i
        unfold upd gMT
        by_cases hi : i = t + k
        · subst hi
          rw [if_pos rfl, if_pos ⟨by omega, by omega⟩, show t + k - t = k by omega, hv]
        · rw [if_neg hi]
          by_cases h2 : t ≤ i ∧ i < t + k
          · rw [if_pos h2, if_pos ⟨h2.1, by omega⟩]
          · rw [if_neg h2, if_neg (fun q => h2 ⟨q.1, by omega⟩)]
      rw [e6]
      exact ih (k + 1) (r + 1 + n) (by omega) (by omega)
    have lt : ∀ m, m < 2 ^ 31 → ((nI m ≤ nI k) = (m ≤ k)) := fun m hm => propext (nI_leI hm (by omega))
    simp only [show (4 : Int32) = nI 4 from rfl, show (8 : Int32) = nI 8 from rfl, show (12 : Int32) = nI 12 from rfl, show (16 : Int32) = nI 16 from rfl, lt 4 (by decide), lt 8 (by decide), lt 12 (by decide), lt 16 (by decide)]
    by_cases c4 : 4 ≤ k
    · rw [if_pos c4]
      by_cases c8 : 8 ≤ k
      · rw [if_pos c8]
        by_cases c12 : 12 ≤ k
        · rw [if_pos c12]
          by_cases c16 : 16 ≤ k
          · rw [if_pos c16]; exact step _ (by unfold gSel; rw [if_neg (by omega), if_neg (by omega), if_neg (by omega), if_neg (by omega)])
          · rw [if_neg c16]; exact step _ (by unfold gSel; rw [if_neg (by omega), if_neg (by omega), if_neg (by omega), if_pos (by omega)])
        · rw [if_neg c12]; exact step _ (by unfold gSel; rw [if_neg (by omega), if_neg (by omega), if_pos (by omega)])
      · rw [if_neg c8]; exact step _ (by unfold gSel; rw [if_neg (by omega), if_pos (by omega)])
    · rw [if_neg c4]; exact step _ (by unfold gSel; rw [if_pos (by omega)])
theorem call_feed {S : GS} (h : IV S) (a b c d e : Int32) : Both S (fun S => fX10_feed S a b c d e) (fun S => fX11_feed S a b c d e) := by
  obtain ⟨td, nt, nc, np, nk, nn, ht, hc, hp, hk, hn, hr, hf⟩ := id h
  obtain ⟨t1, t2, t3, t4, t5, t6, t7, t8⟩ := id ht
  by_cases c1 : nt + 20 ≤ 400
  · have e1 : S.1 0 1 + (20 : Int32) ≤ (400 : Int32) := by
      rw [t4, show (20 : Int32) = nI 20 from rfl, nI_add]
      exact nI_le (b := 400) c1 (by decide)
    obtain ⟨F1, hF1⟩ : ∃ y, y = gTF (S.1 1) nt a := ⟨_, rfl⟩
    obtain ⟨F2, hF2⟩ : ∃ y, y = gTF F1 (nt + 4) b := ⟨_, rfl⟩
    obtain ⟨F3, hF3⟩ : ∃ y, y = gTF F2 (nt + 8) c := ⟨_, rfl⟩
    obtain ⟨F4, hF4⟩ : ∃ y, y = gTF F3 (nt + 12) d := ⟨_, rfl⟩
    obtain ⟨F5, hF5⟩ : ∃ y, y = gTF F4 (nt + 16) e := ⟨_, rfl⟩
    have nxt : ∀ (F : Nat → Int32) (t : Nat) (v : Int32), t + 4 ≤ 400 → fX10_tapeFour (gsi (gc S 1 F) 0 1 (nI t)) v = some ((), gsi (gc S 1 (gTF F t v)) 0 1 (nI (t + 4))) := by
      intro F t v ht4
      rw [x_tape4 (t := t) v (by simp [gsi_r]) ht4]
      congr 2
      unfold gsi gc
      congr 1
      funext x y
      by_cases h0 : x = 0
      · subst h0
        by_cases hy : y = 1 <;> simp [hy]
      · by_cases h1 : x = 1
        · subst h1; simp
        · simp [h0, h1]
    have hx : fX10_feed S a b c d e = some (nI (nt + 20), gsi (gc S 1 F5) 0 1 (nI (nt + 20))) := by
      unfold fX10_feed
      rw [if_pos e1, x_tape4 a t4 (by omega), gbd_s, ← hF1, nxt F1 (nt + 4) b (by omega), gbd_s, ← hF2, nxt F2 (nt + 4 + 4) c (by omega), gbd_s]
      rw [show nt + 4 + 4 = nt + 8 by omega, ← hF3, nxt F3 (nt + 8 + 4) d (by omega), gbd_s, show nt + 8 + 4 = nt + 12 by omega, ← hF4, nxt F4 (nt + 12 + 4) e (by omega), gbd_s, show nt + 12 + 4 = nt + 16 by omega, ← hF5]
      simp [gsi_r]
    refine ⟨nI (nt + 20), _, gsi (gc (gsi (gsi (gc S 1 F5) 0 1 (nI (nt + 20))) 54 0 0) 55 (gMT (S.1 55) nt a b c d e 20)) 54 2 (nI (nt + 20)), hx, ?_, ?_⟩
    · show fX11_feed _ a b c d e = _
      unfold fX11_feed
      have e2 : (gsi (gsi (gc S 1 F5) 0 1 (nI (nt + 20))) 54 0 0).1 54 2 = nI nt := by simp [gsi_r, gc_r, t5]
      have e3 : nI nt ≤ (380 : Int32) := nI_le (b := 380) (by omega) (by decide)
      simp only [glet_s, e2, if_pos e3]
      have e4 : (gsi (gsi (gc S 1 F5) 0 1 (nI (nt + 20))) 54 0 0).1 55 = S.1 55 := by funext y; simp [gsi_r, gc_r]
      have := m_feed_loop (S := gsi (gsi (gc S 1 F5) 0 1 (nI (nt + 20))) 54 0 0) (t := nt) a b c d e e2 c1 20 0 FU rfl (FU_gt (by decide))
      rw [e4] at this
      have e5 : gc (gsi (gsi (gc S 1 F5) 0 1 (nI (nt + 20))) 54 0 0) 55 (gMT (S.1 55) nt a b c d e 0) = gsi (gsi (gc S 1 F5) 0 1 (nI (nt + 20))) 54 0 0 := by
        have z : gMT (S.1 55) nt a b c d e 0 = S.1 55 := by funext y; unfold gMT; rw [if_neg (by omega)]
        rw [z, ← e4, gc_self]
      rw [e5] at this
      exact this
    · refine ⟨td, nt + 20, nc, np, nk, nn, ?_, ?_, ?_, ?_, ?_, ?_, ?_⟩
      · unfold IVt
        refine ⟨by simpa [gsi_r, gc_r] using t1, by simpa [gsi_r, gc_r] using t2, t3, by simp [gsi_r, gc_r], by simp [gsi_r, gc_r], c1, by omega, fun i hi => ?_⟩
        have l1 : (gsi (gc (gsi (gsi (gc S 1 F5) 0 1 (nI (nt + 20))) 54 0 0) 55 (gMT (S.1 55) nt a b c d e 20)) 54 2 (nI (nt + 20))).1 55 i = gMT (S.1 55) nt a b c d e 20 i := by simp [gsi_r, gc_r]
        have l2 : (gsi (gc (gsi (gsi (gc S 1 F5) 0 1 (nI (nt + 20))) 54 0 0) 55 (gMT (S.1 55) nt a b c d e 20)) 54 2 (nI (nt + 20))).1 1 i = F5 i := by simp [gsi_r, gc_r]
        rw [l1, l2]
        by_cases hi2 : i < nt
        · have z5 : F5 i = S.1 1 i := by
            rw [hF5, hF4, hF3, hF2, hF1]
            unfold gTF
            simp only [show ¬ i = nt + 16 + 3 by omega, show ¬ i = nt + 16 + 2 by omega, show ¬ i = nt + 16 + 1 by omega, show ¬ i = nt + 16 by omega, show ¬ i = nt + 12 + 3 by omega, show ¬ i = nt + 12 + 2 by omega, show ¬ i = nt + 12 + 1 by omega, show ¬ i = nt + 12 by omega, show ¬ i = nt + 8 + 3 by omega, show ¬ i = nt + 8 + 2 by omega, show ¬ i = nt + 8 + 1 by omega, show ¬ i = nt + 8 by omega, show ¬ i = nt + 4 + 3 by omega, show ¬ i = nt + 4 + 2 by omega, show ¬ i = nt + 4 + 1 by omega, show ¬ i = nt + 4 by omega, show ¬ i = nt + 3 by omega, show ¬ i = nt + 2 by omega, show ¬ i = nt + 1 by omega, show ¬ i = nt by omega, if_false]
          rw [z5]
          unfold gMT
          rw [if_neg (by omega)]
          exact t8 i hi2
        · obtain ⟨k, rfl⟩ : ∃ k, i = nt + k := ⟨i - nt, by omega⟩
          have hk20 : k < 20 := by omega
          have zM : gMT (S.1 55) nt a b c d e 20 (nt + k) = (gSel a b c d e k >>> (nI (24 - 8 * (k % 4)) &&& 31)) &&& 255 := by
            unfold gMT
            rw [if_pos (by omega), show nt + k - nt = k by omega]
          have zF : F5 (nt + k) = gB (gSel a b c d e k) (24 - 8 * (k % 4)) := by
            rw [hF5, hF4, hF3, hF2, hF1]
            have fin : ∀ k, k < 20 → k = 0 ∨ k = 1 ∨ k = 2 ∨ k = 3 ∨ k = 4 ∨ k = 5 ∨ k = 6 ∨ k = 7 ∨ k = 8 ∨ k = 9 ∨ k = 10 ∨ k = 11 ∨ k = 12 ∨ k = 13 ∨ k = 14 ∨ k = 15 ∨ k = 16 ∨ k = 17 ∨ k = 18 ∨ k = 19 := by intro k hk; omega
            rcases fin k hk20 with rfl | rfl | rfl | rfl | rfl | rfl | rfl | rfl | rfl | rfl | rfl | rfl | rfl | rfl | rfl | rfl | rfl | rfl | rfl | rfl <;> simp [gTF, gSel, Nat.add_assoc]
          rw [zM, zF, gB_low]
          exact ⟨rfl, fb_byte_twice _⟩
      · unfold IVc at hc ⊢; simpa [gsi_r, gc_r] using hc
      · unfold IVp at hp ⊢; simpa [gsi_r, gc_r] using hp
      · unfold IVk gLat gOi at hk ⊢; simpa [gsi_r, gc_r] using hk
      · unfold IVn IVn1 gLat at hn ⊢; simpa [gsi_r, gc_r] using hn
      · obtain ⟨hr0, hr1⟩ := hr
        refine ⟨hr0, ?_⟩
        unfold IVl at hr1 ⊢
        show _ ∧ _
        have q0 : (gsi (gc (gsi (gsi (gc S 1 F5) 0 1 (nI (nt + 20))) 54 0 0) 55 (gMT (S.1 55) nt a b c d e 20)) 54 2 (nI (nt + 20))).2 = S.2 := rfl
        rw [q0]
        rcases hr0 with ⟨z, -⟩ | ⟨z, -⟩ <;> rw [z] at hr1 ⊢ <;> simpa [gsi, gc] using hr1
      · unfold IVf at hf ⊢; simpa [gsi_r, gc_r] using hf
  · have hnt : nt = 400 := by omega
    subst hnt
    refine ⟨-1, S, gsi S 54 0 0, ?_, ?_, IV_thr h 0⟩
    · have e1 : ¬ nI 400 + (20 : Int32) ≤ (400 : Int32) := by decide
      simp [fX10_feed, t4, e1]
    · have e3 : ¬ nI 400 ≤ (380 : Int32) := by decide
      simp [fX11_feed, glet_s, gsi_r, t5, e3]

/-! laid, doubts, names, overruled, binding, weight (the class) -/
def LE (S S' : GS) : Prop := S'.1 = S.1 ∧ S'.2.2 = S.2.2
theorem LE.rf {S : GS} : LE S S := ⟨rfl, rfl⟩
theorem LE.tr {S S1 S2 : GS} (h : LE S S1) (h2 : LE S1 S2) : LE S S2 := ⟨h2.1.trans h.1, h2.2.trans h.2⟩
theorem LE.sl {S S1 : GS} (h : LE S S1) (k j : Nat) (x : Int64) : LE S (gsl S1 k j x) := ⟨h.1, h.2⟩
/-- the rules in force, in words -/
def RX (f : Nat → Nat → Int32) (r : Nat) (t0 t1 : (Nat → Int64) → Bool) (en : Nat) : Prop := (r = 21 ∨ r = 26) ∧ f r 2 = nI en ∧ en < 10 ∧
  ∀ (S : GS) (nm : Nat → Int64), (∀ c, 21 ≤ c → c ≤ 30 → S.1 c = f c) → (∀ i, i < 8 → S.2.1 50 i = nm i) → (∃ S', fX2_isTrue S (r + 1) = some (gz (t0 nm), S') ∧ LE S S') ∧ (∃ S', fX2_isTrue S (r + 3) = some (gz (t1 nm), S') ∧ LE S S')
def CX (f : Nat → Nat → Int32) (cn : Nat → Bool) (ld : Nat → Nat) (np nk nn r : Nat) (S : GS) : Prop := KX f cn ld np nk nn S ∧ (∀ c, 21 ≤ c → c ≤ 30 → S.1 c = f c) ∧ S.2.2 2 = r
def TX (T U : Nat → Bool) (day : Int32) (S : GS) : Prop := S.1 35 5 = day ∧ (∀ c, c < 32 → bt (S.1 35 6) c = T c) ∧ ∀ c, c < 32 → bt (S.1 35 7) c = U c
def BX (B : Nat → Nat → Bool) (nk : Nat) (S : GS) : Prop := ∀ c, c < nk → ∀ p, p < 12 → bt (S.1 48 c) p = B c p
section
variable {f : Nat → Nat → Int32} {cn : Nat → Bool} {ld : Nat → Nat} {td nc np nk nn r : Nat} {S S' : GS} {T U : Nat → Bool} {day : Int32} {B : Nat → Nat → Bool} {t0 t1 : (Nat → Int64) → Bool} {en : Nat}
theorem KX.le (h : KX f cn ld np nk nn S) (e : LE S S') : KX f cn ld np nk nn S' := by unfold KX at h ⊢; rw [e.1]; exact h
theorem CX.le (h : CX f cn ld np nk nn r S) (e : LE S S') : CX f cn ld np nk nn r S' := ⟨h.1.le e, fun c h1 h2 => by rw [e.1]; exact h.2.1 c h1 h2, by rw [e.2]; exact h.2.2⟩
theorem TX.le (h : TX T U day S) (e : LE S S') : TX T U day S' := by unfold TX at h ⊢; rw [e.1]; exact h
theorem BX.le (h : BX B nk S) (e : LE S S') : BX B nk S' := by unfold BX at h ⊢; rw [e.1]; exact h
theorem gLs_no {p m : Nat} (hz : gStt f cn m = false) : gLs f cn ld p day (m + 1) = gLs f cn ld p day m := by
  show (if _ then _ else _) = _
  rw [if_neg]
  rintro ⟨q, -⟩
  rw [hz] at q
  cases q
theorem fb_ct_no {P : Nat → Bool} {a d : Nat} (h : fb_ct P (a + d + 1) = fb_ct P a) : P (a + d) = false ∧ fb_ct P (a + d) = fb_ct P a := by
  have h1 := fb_ct_mono P (show a ≤ a + d by omega)
  rw [fb_ct_succ] at h
  cases hs : P (a + d)
  · rw [hs] at h
    exact ⟨rfl, by simpa using h⟩
  · rw [hs] at h
    simp at h
    omega
theorem gLs_skip {p : Nat} {a : Nat} : ∀ d, fb_ct (gStt f cn) (a + d) = fb_ct (gStt f cn) a → gLs f cn ld p day (a + d) = gLs f cn ld p day a := by
  intro d
  induction d with
  | zero => intro _; rw [Nat.add_zero]
  | succ d ih =>
    intro h
    rw [← Nat.add_assoc] at h ⊢
    obtain ⟨h1, h2⟩ := fb_ct_no (P := gStt f cn) (a := a) (d := d) h
    rw [gLs_no h1]
    exact ih h2
theorem gLs_same {p a b : Nat} (h : fb_ct (gStt f cn) a = fb_ct (gStt f cn) b) : gLs f cn ld p day a = gLs f cn ld p day b := by
  rcases Nat.le_total a b with q | q
  · obtain ⟨d, rfl⟩ := Nat.exists_eq_add_of_le q
    exact (gLs_skip d h.symm).symm
  · obtain ⟨d, rfl⟩ := Nat.exists_eq_add_of_le q
    exact gLs_skip d h
theorem x_laid (h : DBx f td nc np nk nn) (hK : KX f cn ld np nk nn S) {p : Nat} (hd : S.1 35 5 = day) (hp : p < 2 ^ 31) : fX9_isLaid S (nI p) = some (gz (gLa f cn ld nn p day)) := by
  have hnn := h.2.2.2.2.2.2.1
  have hnp := h.2.2.1.2.2.1
  have hM := fb_ct_le (gStt f cn) nn
  unfold fX9_isLaid
  simp only [glet_s]
  have key : ∀ r i n M, i + r = fb_ct (gStt f cn) nn → r < n → fb_ct (gStt f cn) M = i → fX9_isLaid_7 n S (nI p) (gLs f cn ld p day M).1 (gz (gLs f cn ld p day M).2) (nI i) = some (gz (gLa f cn ld nn p day)) := by
    intro r
    induction r with
    | zero =>
      intro i n M hi hn hM2
      obtain ⟨n, rfl⟩ := Nat.exists_eq_add_of_lt hn
      rw [show 0 + n + 1 = n + 1 by omega, fX9_isLaid_7, hK.2.2.2.2.2.1, if_pos (nI_le (by omega) (by omega)), if_pos (gzb _)]
      unfold gLa
      rw [gLs_same (show fb_ct (gStt f cn) M = fb_ct (gStt f cn) nn by omega)]
    | succ r ih =>
      intro i n M hi hn hM2
      obtain ⟨n, rfl⟩ := Nat.exists_eq_add_of_lt hn
      obtain ⟨m, m1, m2, m3, m4, m5, m6⟩ := stt_at h hK (i := i) (by omega)
      obtain ⟨l1, l2⟩ := hK.2.1 _ (gib_all m5 (by omega)).1
      have em : (nI m).toNatClampNeg = m := nI_clamp (by omega)
      have e0 : gLs f cn ld p day M = gLs f cn ld p day m := gLs_same (hM2.trans m3.symm)
      have e1 : fb_ct (gStt f cn) (m + 1) = i + 1 := by rw [fb_ct_succ, m2, m3]; rfl
      rw [e0]
      have no : ¬ (gStt f cn m = true ∧ ld (f 19 m).toNatClampNeg = p ∧ f 20 m ≤ day ∧ (gLs f cn ld p day m).1 ≤ f 20 m) → fX9_isLaid_7 (r + 1 + n) S (nI p) (gLs f cn ld p day m).1 (gz (gLs f cn ld p day m).2) (nI (i + 1)) = some (gz (gLa f cn ld nn p day)) := by
        intro hz
        have := ih (i + 1) (r + 1 + n) (m + 1) (by omega) (by omega) e1
        rw [gLs, if_neg hz] at this
        exact this
      rw [show r + 1 + n + 1 = (r + 1 + n) + 1 from rfl, fX9_isLaid_7, hK.2.2.2.2.2.1, if_neg (nI_ge (by omega) (by omega)), if_pos (gib_nI (show i < 120 by omega) (by decide)), nI_clamp (show i < 2 ^ 31 by omega), m4, glet_s, if_pos (gib_nI (show m < 120 by omega) (by decide)), em, hK.1 15 (by decide), hK.1 19 (by decide), hK.1 20 (by decide), glet_s, if_pos (gib_ge m5 hnp), l1, hd]
      simp only [nI_eq (show ld (f 19 m).toNatClampNeg < 2 ^ 31 by omega) hp]
      by_cases cl : ld (f 19 m).toNatClampNeg = p
      · rw [if_pos cl]
        by_cases cd : day < f 20 m
        · rw [if_pos cd, glet_s, nI_1]
          exact no (fun q => (fa_of_lt cd).2.1 q.2.2.1)
        · rw [if_neg cd]
          by_cases cc : f 20 m < (gLs f cn ld p day m).1
          · rw [if_pos cc, glet_s, nI_1]
            exact no (fun q => (fa_of_lt cc).2.1 q.2.2.2)
          · rw [if_neg cc]
            have yes := ih (i + 1) (r + 1 + n) (m + 1) (by omega) (by omega) e1
            rw [gLs, if_pos ⟨m2, cl, fa_of_nlt cd, fa_of_nlt cc⟩] at yes
            by_cases c6 : f 15 m = 6
            · rw [if_pos c6]
              simp only [glet_s, nI_1]
              rw [decide_eq_true c6] at yes
              exact yes
            · rw [if_neg c6]
              simp only [glet_s, nI_1]
              rw [decide_eq_false c6] at yes
              exact yes
      · rw [if_neg cl, glet_s, nI_1]
        exact no (fun q => cl q.2.1)
  have k0 := key (fb_ct (gStt f cn) nn) 0 FU 0 (by omega) (FU_gt (by omega)) rfl
  have e0 : gLs f cn ld p day 0 = ((-1 : Int32), false) := rfl
  rw [e0] at k0
  simp only [gz_f] at k0
  rw [show nI 0 = (0 : Int32) from rfl] at k0
  exact k0
theorem b_alive (hT : TX T U day S) {x : Int32} {d : Nat} (hd : d < 32) : bt ((x &&& S.1 35 6) &&& (S.1 35 7 ^^^ (-1))) d = (bt x d && T d && !(U d)) := by
  rw [b_and, b_and, b_xor, b_m1 d hd, hT.2.1 d hd, hT.2.2 d hd]
  cases U d <;> simp
theorem x_doubts (h : DBx f td nc np nk nn) (hK : KX f cn ld np nk nn S) (hT : TX T U day S) {c p : Nat} (hc : c < 32) (hp : p < 12) : fX9_doubtsOf S (nI c) (nI p) = some (nI (gDb f cn ld nn T U c p)) := by
  unfold fX9_doubtsOf fX3_placeOf fX9_alive
  rw [gbv_s, show (12 : Int32) = nI 12 from rfl, pk_mul, nI_add, if_pos (gib_nI (show c * 12 + p < 384 by omega) (by decide)), nI_clamp (by omega), gbv_s, x_bits, gbv_s]
  congr 2
  unfold gDb
  apply fb_ct_cong
  intro d hd
  rw [b_alive hT hd, hK.2.2.2.1 c hc p hp d hd]
  cases T d <;> cases U d <;> cases gTq f cn ld nn 3 c p d <;> rfl
theorem gDb_le (c p : Nat) : gDb f cn ld nn T U c p ≤ 32 := fb_ct_le _ _
theorem x_names (h : DBx f td nc np nk nn) (hK : KX f cn ld np nk nn S) {c ct : Nat} (hc : c < nk) (hct : ct < nc) : ∃ S', fX9_nameSides S (nI c) (nI ct) = some ((), S') ∧ LE S S' ∧ ∀ vt age db i, i < 5 → S'.2.1 50 i = gNm f c ct vt age db i := by
  have hnk := h.2.2.2.1.2.2.1
  have hnc := h.2.1.2.2.1
  have w := h.2.2.2.1.2.2.2.1 c hc
  obtain ⟨o, ho, eo⟩ := gib_ex w.2.2.2.2.2.1 (by omega)
  have ec : (nI c).toNatClampNeg = c := nI_clamp (by omega)
  have eo2 : (nI o).toNatClampNeg = o := nI_clamp (by omega)
  have ect : (nI ct).toNatClampNeg = ct := nI_clamp (by omega)
  have g32 : gib (nI c) 32 = true := gib_nI (by omega) (by decide)
  have g6 : gib (nI o) 6 = true := gib_nI (by omega) (by decide)
  have g6b : gib (nI ct) 6 = true := gib_nI (by omega) (by decide)
  have k3 := hK.1 3 (by decide); have k4 := hK.1 4 (by decide); have k8 := hK.1 8 (by decide); have k10 := hK.1 10 (by decide)
  obtain ⟨sm, hsm⟩ : ∃ sm : Int64, sm = if o = ct then 1 else 0 := ⟨_, rfl⟩
  obtain ⟨ln, hln⟩ : ∃ ln : Int64, ln = if f 4 o = f 4 ct then 1 else 0 := ⟨_, rfl⟩
  refine ⟨gsl (gsl (gsl (gsl (gsl S 50 0 (f 3 o).toInt64) 50 1 (f 3 ct).toInt64) 50 2 sm) 50 3 ln) 50 4 (f 10 c).toInt64, ?_, ((((LE.rf.sl _ _ _).sl _ _ _).sl _ _ _).sl _ _ _).sl _ _ _, ?_⟩
  · have e89 : ∀ (S2 : GS) (t : Int64), S2.1 = S.1 → fX9_nameSides_89 S2 t (nI c) = some ((), gsl (gsl S2 50 3 t) 50 4 (f 10 c).toInt64) := by
      intro S2 t hS2
      unfold fX9_nameSides_89
      rw [glet_s, if_pos g32, ec, glet_s]
      have : (gsl S2 50 3 t).1 10 c = f 10 c := by show S2.1 10 c = _; rw [hS2, k10]
      rw [this]
    have e57 : ∀ (S2 : GS) (t : Int64), S2.1 = S.1 → fX9_nameSides_57 S2 t (nI c) (nI ct) (nI o) = some ((), gsl (gsl (gsl S2 50 2 t) 50 3 ln) 50 4 (f 10 c).toInt64) := by
      intro S2 t hS2
      unfold fX9_nameSides_57
      rw [glet_s, if_pos g6, if_pos g6b, eo2, ect]
      have q1 : (gsl S2 50 2 t).1 4 o = f 4 o := by show S2.1 4 o = _; rw [hS2, k4]
      have q2 : (gsl S2 50 2 t).1 4 ct = f 4 ct := by show S2.1 4 ct = _; rw [hS2, k4]
      rw [q1, q2]
      by_cases cl : f 4 o = f 4 ct
      · rw [if_pos cl, e89 (gsl S2 50 2 t) _ hS2, hln, if_pos cl]
      · rw [if_neg cl, e89 (gsl S2 50 2 t) _ hS2, hln, if_neg cl]
    unfold fX9_nameSides
    rw [if_pos g32, ec, k8, eo, glet_s, if_pos g6, eo2, k3, glet_s, if_pos g6b, ect]
    have q1 : (gsl S 50 0 (f 3 o).toInt64).1 3 ct = f 3 ct := by show S.1 3 ct = _; rw [k3]
    rw [q1, glet_s]
    simp only [nI_eq (show o < 2 ^ 31 by omega) (show ct < 2 ^ 31 by omega)]
    by_cases cs : o = ct
    · rw [if_pos cs, e57 (gsl (gsl S 50 0 (f 3 o).toInt64) 50 1 (f 3 ct).toInt64) _ rfl, hsm, if_pos cs]
    · rw [if_neg cs, e57 (gsl (gsl S 50 0 (f 3 o).toInt64) 50 1 (f 3 ct).toInt64) _ rfl, hsm, if_neg cs]
  · intro vt age db i hi
    have eo3 : (f 8 c).toNatClampNeg = o := by rw [eo, eo2]
    rcases (show i = 0 ∨ i = 1 ∨ i = 2 ∨ i = 3 ∨ i = 4 by omega) with rfl | rfl | rfl | rfl | rfl <;> simp [gsl, gNm, eo3, hsm, hln]
/-- the names are laid whole -/
theorem x_names8 {c ct vt db : Nat} {age : Int32} (h : ∀ vt age db i, i < 5 → S.2.1 50 i = gNm f c ct vt age db i) : ∀ i, i < 8 → (gsl (gsl (gsl S 50 5 (nI vt).toInt64) 50 6 age.toInt64) 50 7 (nI db).toInt64).2.1 50 i = gNm f c ct vt age db i := by
  intro i hi
  by_cases h5 : i < 5
  · have : i ≠ 5 ∧ i ≠ 6 ∧ i ≠ 7 := by omega
    simp [gsl, this]
    exact h vt age db i h5
  · rcases (show i = 5 ∨ i = 6 ∨ i = 7 by omega) with rfl | rfl | rfl <;> simp [gsl, gNm]
theorem RX.asks (hR : RX f r t0 t1 en) (hC : CX f cn ld np nk nn r S) {nm : Nat → Int64} (hn : ∀ i, i < 8 → S.2.1 50 i = nm i) :
    gk (S.2.2 2) = 7 ∧ gk (gr S.2.2 (S.2.2 2) 4) = 2 ∧ gk (gr S.2.2 (S.2.2 2) 5) = 2 ∧ S.1 (S.2.2 2) 2 = nI en ∧ (∃ S', fX2_isTrue S (gr S.2.2 (S.2.2 2) 4) = some (gz (t0 nm), S') ∧ LE S S') ∧ (∃ S', fX2_isTrue S (gr S.2.2 (S.2.2 2) 5) = some (gz (t1 nm), S') ∧ LE S S') := by
  obtain ⟨h1, h2, h3, h4⟩ := hR
  obtain ⟨q0, q1⟩ := h4 S nm hC.2.1 hn
  rw [hC.2.2]
  rcases h1 with rfl | rfl
  · exact ⟨rfl, rfl, rfl, by rw [hC.2.1 21 (by decide) (by decide)]; exact h2, q0, q1⟩
  · exact ⟨rfl, rfl, rfl, by rw [hC.2.1 26 (by decide) (by decide)]; exact h2, q0, q1⟩
theorem x_bind (h : DBx f td nc np nk nn) (hR : RX f r t0 t1 en) (hC : CX f cn ld np nk nn r S) (hT : TX T U day S) {c p ct : Nat} {F : Int32} (hc : c < nk) (hp : p < 12) (hct : ct < nc) :
    ∃ S', fX9_doesBind S (nI c) (nI p) (nI ct) F = some (gz (gBd f cn ld nn T U t0 day c p ct F), S') ∧ LE S S' := by
  have hnk := h.2.2.2.1.2.2.1
  have ec : (nI c).toNatClampNeg = c := nI_clamp (by omega)
  obtain ⟨S1, a1, a2, a3⟩ := x_names h hC.1 hc hct
  unfold fX9_doesBind
  rw [a1, gbd_s, x_votes h (hC.1.le a2) hc (by omega), gbv_s, glet_s, if_pos (gib_nI (show c < 32 by omega) (by decide)), ec]
  have e1 : (gsl S1 50 5 (nI (gVt f cn ld nn c p F)).toInt64).1 35 5 = day := by show S1.1 35 5 = _; rw [a2.1]; exact hT.1
  have e2 : (gsl S1 50 5 (nI (gVt f cn ld nn c p F)).toInt64).1 9 c = f 9 c := by show S1.1 9 c = _; rw [a2.1, hC.1.1 9 (by decide)]
  rw [e1, e2, glet_s]
  have l3 : LE S (gsl (gsl S1 50 5 (nI (gVt f cn ld nn c p F)).toInt64) 50 6 (day - f 9 c).toInt64) := (a2.sl _ _ _).sl _ _ _
  rw [x_doubts h (hC.1.le l3) (hT.le l3) (by omega) hp, gbv_s, glet_s]
  have l4 := l3.sl 50 7 (nI (gDb f cn ld nn T U c p)).toInt64
  obtain ⟨g1, g2, g3, g4, ⟨S', q1, q2⟩, -⟩ := hR.asks (hC.le l4) (x_names8 (vt := gVt f cn ld nn c p F) (age := day - f 9 c) (db := gDb f cn ld nn T U c p) a3)
  rw [if_pos g1, if_pos g2, q1, gbd_s, if_pos (gzb _)]
  exact ⟨S', rfl, l4.tr q2⟩
theorem x_over (h : DBx f td nc np nk nn) (hR : RX f r t0 t1 en) (hC : CX f cn ld np nk nn r S) (hT : TX T U day S) (hTn : ∀ d, T d = true → d < nk) {c p : Nat} (hc : c < nk) (hp : p < 12) :
    ∃ S', fX9_isOverruled S (nI c) (nI p) = some (gz (gOv f cn ld nn T U t1 c p), S') ∧ LE S S' := by
  have hnk := h.2.2.2.1.2.2.1
  have hnc := h.2.1.2.2.1
  have k7 : f 7 0 = nI nk := h.2.2.2.1.1
  have ec : (nI c).toNatClampNeg = c := nI_clamp (by omega)
  have g32 : gib (nI c) 32 = true := gib_nI (by omega) (by decide)
  obtain ⟨o, ho, eo⟩ := gib_ex (h.2.2.2.1.2.2.2.1 c hc).2.2.2.2.2.1 (by omega)
  have eo3 : (f 8 c).toNatClampNeg = o := by rw [eo, nI_clamp (by omega)]
  unfold fX9_isOverruled fX3_placeOf fX9_alive
  rw [gbv_s, show (12 : Int32) = nI 12 from rfl, pk_mul, nI_add, if_pos (gib_nI (show c * 12 + p < 384 by omega) (by decide)), nI_clamp (show c * 12 + p < 2 ^ 31 by omega), gbv_s, glet_s]
  have hM : ∀ d, d < 32 → bt ((S.1 40 (c * 12 + p) &&& S.1 35 6) &&& (S.1 35 7 ^^^ (-1))) d = (gTq f cn ld nn 2 c p d && T d && !(U d)) := fun d hd => by rw [b_alive hT hd, hC.1.2.2.1 c (by omega) p hp d hd]
  generalize (S.1 40 (c * 12 + p) &&& S.1 35 6) &&& (S.1 35 7 ^^^ (-1)) = M at hM ⊢
  have key : ∀ q d n S1, d + q = nk → q < n → LE S S1 → (∀ d', d' < d → (T d' && !(U d') && gTq f cn ld nn 2 c p d' && t1 (gNm f d' (f 8 c).toNatClampNeg (gVt f cn ld nn d' p (f 11 d')) (f 9 d' - f 9 c) (gDb f cn ld nn T U c p))) = false) → ∃ S', fX9_isOverruled_21 n S1 (nI c) (nI p) M (nI d) = some (gz (gOv f cn ld nn T U t1 c p), S') ∧ LE S S' := by
    intro q
    induction q with
    | zero =>
      intro d n S1 hd hn hL hno
      obtain ⟨n, rfl⟩ := Nat.exists_eq_add_of_lt hn
      have e7 : S1.1 7 0 = nI nk := by rw [hL.1, hC.1.1 7 (by decide), k7]
      rw [show 0 + n + 1 = n + 1 by omega, fX9_isOverruled_21, e7, if_pos (nI_le (by omega) (by omega))]
      have : gOv f cn ld nn T U t1 c p = false := by
        apply gAny_f
        intro d' hd'
        by_cases hdn : d' < d
        · exact hno d' hdn
        · cases hTd : T d'
          · rfl
          · have := hTn d' hTd; omega
      rw [this]
      exact ⟨S1, rfl, hL⟩
    | succ q ih =>
      intro d n S1 hd hn hL hno
      obtain ⟨n, rfl⟩ := Nat.exists_eq_add_of_lt hn
      have e7 : S1.1 7 0 = nI nk := by rw [hL.1, hC.1.1 7 (by decide), k7]
      rw [show q + 1 + n + 1 = (q + 1 + n) + 1 from rfl, fX9_isOverruled_21, e7, if_neg (nI_ge (by omega) (by omega))]
      by_cases cM : M = 0
      · rw [if_pos cM]
        have : gOv f cn ld nn T U t1 c p = false := by
          apply gAny_f
          intro d' hd'
          have := hM d' hd'
          rw [cM, b_0] at this
          cases h1 : T d' <;> cases h2 : U d' <;> cases h3 : gTq f cn ld nn 2 c p d' <;> simp [h1, h2, h3] at this ⊢
        rw [this]
        exact ⟨S1, rfl, hL⟩
      · rw [if_neg cM, x_has _ (show d < 32 by omega), gbv_s, hM d (by omega)]
        simp only [gz_0]
        have ed : (nI d).toNatClampNeg = d := nI_clamp (by omega)
        by_cases cd : (gTq f cn ld nn 2 c p d && T d && !(U d)) = false
        · rw [if_pos cd, glet_s, nI_1]
          refine ih (d + 1) (q + 1 + n) S1 (by omega) (by omega) hL (fun d' hd' => ?_)
          by_cases hdd : d' = d
          · subst hdd
            cases h1 : T d' <;> cases h2 : U d' <;> cases h3 : gTq f cn ld nn 2 c p d' <;> simp [h1, h2, h3] at cd ⊢
          · exact hno d' (by omega)
        · rw [if_neg cd]
          have cd' : T d = true ∧ U d = false ∧ gTq f cn ld nn 2 c p d = true := by
            cases h1 : T d <;> cases h2 : U d <;> cases h3 : gTq f cn ld nn 2 c p d <;> simp [h1, h2, h3] at cd ⊢
          have hdn := hTn d cd'.1
          have hC1 := hC.le hL
          have e8 : S1.1 8 c = nI o := by rw [hC1.1.1 8 (by decide), eo]
          obtain ⟨S2, a1, a2, a3⟩ := x_names h hC1.1 (c := d) (ct := o) (by omega) ho
          have hC2 := hC1.le a2
          rw [if_pos g32, ec, e8, a1, gbd_s, if_pos (gib_nI (show d < 32 by omega) (by decide)), ed, hC2.1.1 11 (by decide), x_votes h hC2.1 (by omega) (by omega), gbv_s, glet_s]
          have q1 : (gsl S2 50 5 (nI (gVt f cn ld nn d p (f 11 d))).toInt64).1 9 d = f 9 d := by show S2.1 9 d = _; rw [hC2.1.1 9 (by decide)]
          have q2 : (gsl S2 50 5 (nI (gVt f cn ld nn d p (f 11 d))).toInt64).1 9 c = f 9 c := by show S2.1 9 c = _; rw [hC2.1.1 9 (by decide)]
          rw [q1, q2, glet_s]
          have l3 : LE S2 (gsl (gsl S2 50 5 (nI (gVt f cn ld nn d p (f 11 d))).toInt64) 50 6 (f 9 d - f 9 c).toInt64) := (LE.rf.sl _ _ _).sl _ _ _
          have hT2 : TX T U day S2 := hT.le (hL.tr a2)
          rw [x_doubts h (hC2.1.le l3) (hT2.le l3) (by omega) hp, gbv_s, glet_s]
          have l4 := l3.sl 50 7 (nI (gDb f cn ld nn T U c p)).toInt64
          obtain ⟨g1, g2, g3, g4, -, ⟨S3, r1, r2⟩⟩ := hR.asks (hC2.le l4) (x_names8 (vt := gVt f cn ld nn d p (f 11 d)) (age := f 9 d - f 9 c) (db := gDb f cn ld nn T U c p) a3)
          rw [if_pos g1, if_pos g3, r1, gbd_s]
          simp only [gz_0]
          have hL3 : LE S S3 := (hL.tr a2).tr (l4.tr r2)
          cases ht : t1 (gNm f d o (gVt f cn ld nn d p (f 11 d)) (f 9 d - f 9 c) (gDb f cn ld nn T U c p))
          · rw [if_pos rfl, glet_s, nI_1]
            refine ih (d + 1) (q + 1 + n) S3 (by omega) (by omega) hL3 (fun d' hd' => ?_)
            by_cases hdd : d' = d
            · subst hdd; rw [eo3, ht]; simp
            · exact hno d' (by omega)
          · rw [if_neg (by decide)]
            have : gOv f cn ld nn T U t1 c p = true := gAny_iff.mpr ⟨d, by omega, by rw [eo3, ht]; simp [cd']⟩
            rw [this]
            exact ⟨S3, rfl, hL3⟩
  exact key nk 0 FU S (by omega) (FU_gt (by omega)) LE.rf (fun d' hd' => absurd hd' (Nat.not_lt_zero _))
theorem x_weight (h : DBx f td nc np nk nn) (hR : RX f r t0 t1 en) (hC : CX f cn ld np nk nn r S) (hT : TX T U day S) (hTn : ∀ d, T d = true → d < nk) (hB : BX B nk S) {c p ct : Nat} {F : Int32} (hc : c < nk) (hp : p < 12) (hct : ct < nc) :
    ∃ S', fX9_weightOf S (nI c) (nI p) (nI ct) F = some (nI (gWt f cn ld nn T U t0 t1 B en day c p ct F), S') ∧ LE S S' := by
  have hnk := h.2.2.2.1.2.2.1
  unfold fX9_weightOf gWt
  rw [x_spoken h hC.1 hc (by omega), gbv_s]
  simp only [gz_0]
  cases h1 : gSk f cn ld nn c p F
  · rw [if_pos rfl, if_pos (Or.inl rfl)]; exact ⟨S, rfl, LE.rf⟩
  rw [if_neg (by decide), x_taken h hC.1 hT.1 hc (by omega), gbv_s]
  simp only [gz_0]
  by_cases h2 : gTk f cn ld nn c p day = true
  · rw [if_neg (by rw [h2]; decide), if_pos (Or.inr (Or.inl h2))]; exact ⟨S, rfl, LE.rf⟩
  rw [if_pos (by simpa using h2)]
  obtain ⟨S1, a1, a2⟩ := x_over h hR hC hT hTn hc hp
  rw [a1, gbd_s]
  simp only [gz_0]
  by_cases h3 : gOv f cn ld nn T U t1 c p = true
  · rw [if_neg (by rw [h3]; decide), if_pos (Or.inr (Or.inr h3))]; exact ⟨S1, rfl, a2⟩
  rw [if_pos (by simpa using h3), if_neg (show ¬ ((true = false) ∨ gTk f cn ld nn c p day = true ∨ gOv f cn ld nn T U t1 c p = true) by simp [h2, h3]), if_pos (gib_nI (show c < 32 by omega) (by decide)), nI_clamp (show c < 2 ^ 31 by omega), x_has _ (show p < 32 by omega), gbv_s, (hB.le a2) c hc p hp]
  simp only [gz_0]
  have hC1 := hC.le a2
  by_cases h4 : B c p = true
  · rw [if_neg (by rw [h4]; decide), if_pos (Or.inl h4)]; exact ⟨S1, rfl, a2⟩
  rw [if_pos (by simpa using h4), x_held h hC1.1 hc (by omega), gbv_s]
  simp only [gz_0]
  cases h5 : gHe f cn ld nn c p F
  · rw [if_pos rfl, if_pos (Or.inr (Or.inl rfl))]; exact ⟨S1, rfl, a2⟩
  rw [if_neg (by decide)]
  obtain ⟨S2, b1, b2⟩ := x_bind h hR hC1 (hT.le a2) (F := F) hc hp hct
  rw [b1, gbd_s]
  simp only [gz_0]
  cases h6 : gBd f cn ld nn T U t0 day c p ct F
  · rw [if_pos rfl, if_pos (Or.inr (Or.inr rfl))]; exact ⟨S2, rfl, a2.tr b2⟩
  rw [if_neg (by decide), if_neg (show ¬ (B c p = true ∨ (true = false) ∨ (true = false)) by simp [h4]), x_doubts h (hC1.le b2).1 ((hT.le a2).le b2) (by omega) hp, gbv_s]
  have hC2 := hC1.le b2
  have hq : gk (S2.2.2 2) = 7 ∧ S2.1 (S2.2.2 2) 2 = nI en := by
    obtain ⟨r1, r2, r3, -⟩ := hR
    rw [hC2.2.2]
    rcases r1 with rfl | rfl
    · exact ⟨rfl, by rw [hC2.2.1 21 (by decide) (by decide)]; exact r2⟩
    · exact ⟨rfl, by rw [hC2.2.1 26 (by decide) (by decide)]; exact r2⟩
  have hen := hR.2.2.1
  have hdb := gDb_le (f := f) (cn := cn) (ld := ld) (nn := nn) (T := T) (U := U) c p
  rw [if_pos hq.1, hq.2]
  simp only [nI_ltI (show gDb f cn ld nn T U c p < 2 ^ 31 by omega) (show en < 2 ^ 31 by omega)]
  by_cases h7 : gDb f cn ld nn T U c p < en
  · rw [if_pos h7, if_pos h7]; exact ⟨S2, rfl, a2.tr b2⟩
  · rw [if_neg h7, if_neg h7]; exact ⟨S2, rfl, a2.tr b2⟩
end

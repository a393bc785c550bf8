/-! binders, stand, leader (the class) -/
def gMx (W : Nat → Nat) : Nat → Nat
  | 0 => 0
  | m + 1 => max (gMx W m) (W m)
theorem gMx_le {W : Nat → Nat} {b : Nat} (h : ∀ d, W d ≤ b) : ∀ m, gMx W m ≤ b
  | 0 => Nat.zero_le _
  | m + 1 => by rw [gMx]; exact Nat.max_le.mpr ⟨gMx_le h m, h m⟩
theorem gMx_ge {W : Nat → Nat} {m d : Nat} (h : d < m) : W d ≤ gMx W m := by
  induction m with
  | zero => omega
  | succ m ih =>
    rw [gMx]
    rcases Nat.lt_or_ge d m with q | q
    · exact Nat.le_trans (ih q) (Nat.le_max_left _ _)
    · have : d = m := by omega
      subst this; exact Nat.le_max_right _ _
theorem gMx_ex {W : Nat → Nat} : ∀ {m : Nat}, 0 < gMx W m → ∃ d, d < m ∧ W d = gMx W m
  | 0, h => absurd h (Nat.lt_irrefl _)
  | m + 1, h => by
    rw [gMx] at h ⊢
    by_cases q : gMx W m ≤ W m
    · exact ⟨m, by omega, by omega⟩
    · obtain ⟨d, d1, d2⟩ := gMx_ex (W := W) (m := m) (by omega)
      exact ⟨d, by omega, by omega⟩
theorem gMx_rest {W : Nat → Nat} {m : Nat} : ∀ {k : Nat}, (∀ d, m ≤ d → W d ≤ gMx W m) → gMx W (m + k) = gMx W m
  | 0, _ => rfl
  | k + 1, h => by
    show max (gMx W (m + k)) (W (m + k)) = _
    rw [gMx_rest (k := k) h]
    have := h (m + k) (by omega)
    omega
/-- one case leads before another one -/
def gBtr (f : Nat → Nat → Int32) (W : Nat → Nat) (d e : Nat) : Prop := W e < W d ∨ (W e = W d ∧ (f 3 (f 8 e).toNatClampNeg < f 3 (f 8 d).toNatClampNeg ∨ (f 3 (f 8 e).toNatClampNeg = f 3 (f 8 d).toNatClampNeg ∧ gLat f d e)))
def gIsL (f : Nat → Nat → Int32) (W : Nat → Nat) (L : Int32) : Prop := (L = -1 ∧ ∀ d, d < 32 → W d = 0) ∨ ∃ d, d < 32 ∧ L = nI d ∧ 0 < W d ∧ ∀ e, e < 32 → 0 < W e → e ≠ d → gBtr f W d e
theorem lat_asym {f : Nat → Nat → Int32} {a b : Nat} (h : gLat f a b) : ¬ gLat f b a := by
  unfold gLat at h ⊢
  rintro (q | ⟨q1, q2⟩) <;> rcases h with z | ⟨z1, z2⟩
  · exact (fa_of_lt q).2.2.1 z
  · exact (fa_of_lt q).2.2.2.1 z1.symm
  · exact (fa_of_lt z).2.2.2.1 q1.symm
  · omega
theorem gIsL_one {f : Nat → Nat → Int32} {W : Nat → Nat} {L L' : Int32} (h : gIsL f W L) (h' : gIsL f W L') : L = L' := by
  rcases h with ⟨h1, h2⟩ | ⟨d, h1, h2, h3, h4⟩ <;> rcases h' with ⟨g1, g2⟩ | ⟨e, g1, g2, g3, g4⟩
  · rw [h1, g1]
  · have := h2 e g1; omega
  · have := g2 d h1; omega
  · by_cases q : d = e
    · rw [h2, g2, q]
    · exfalso
      have a := h4 e g1 g3 (fun z => q z.symm)
      have b := g4 d h1 h3 q
      unfold gBtr at a b
      rcases a with a | ⟨a1, a2⟩ <;> rcases b with b | ⟨b1, b2⟩
      · omega
      · omega
      · omega
      · rcases a2 with a | ⟨a3, a4⟩ <;> rcases b2 with b | ⟨b3, b4⟩
        · exact (fa_of_lt a).2.2.1 b
        · exact (fa_of_lt a).2.2.2.1 b3.symm
        · exact (fa_of_lt b).2.2.2.1 a3.symm
        · exact lat_asym a4 b4
theorem bnf {b : Bool} (h : ¬ b = false) : b = true := by cases b <;> simp_all
section
variable {X : CT} {T : Nat → Bool} {S S' S1 S2 : GS} {day : Int32} {B : Nat → Nat → Bool}
theorem gWt_le {f : Nat → Nat → Int32} {cn : Nat → Bool} {ld : Nat → Nat} {nn : Nat} {T U : Nat → Bool} {t0 t1 : (Nat → Int64) → Bool} {B : Nat → Nat → Bool} {en : Nat} {day : Int32} {c p ct : Nat} {F : Int32} : gWt f cn ld nn T U t0 t1 B en day c p ct F ≤ 3 := by
  unfold gWt
  split
  · omega
  · split
    · omega
    · split <;> omega
theorem CT.wt_le {p ct : Nat} {F : Int32} (d : Nat) : X.wt T B day p ct F d ≤ 3 := by
  unfold CT.wt
  split
  · exact gWt_le
  · omega
theorem CT.sk_sp {c p : Nat} {F : Int32} (h : gSk X.f X.cn X.ld X.nn c p F = true) : X.sp p c = true := by
  obtain ⟨n, h1, h2⟩ := gAny_iff.mp h
  simp only [Bool.and_eq_true] at h2
  refine gAny_iff.mpr ⟨n, h1, ?_⟩
  have := h2.2
  unfold gSp at this
  simp only [Bool.and_eq_true] at this
  rw [h2.1, this.1]; rfl
theorem he_sk {f : Nat → Nat → Int32} {cn : Nat → Bool} {ld : Nat → Nat} {nn c p : Nat} {F : Int32} (h : gHe f cn ld nn c p F = true) : gSk f cn ld nn c p F = true := by
  unfold gHe at h
  have h1 : 0 < gVt f cn ld nn c p F := by have := of_decide_eq_true h; omega
  obtain ⟨j, j1, j2⟩ := fb_ct_pos.mp h1
  obtain ⟨n, n1, n2⟩ := gAny_iff.mp j2
  simp only [Bool.and_eq_true] at n2
  exact gAny_iff.mpr ⟨n, n1, by rw [n2.1.1.1, n2.1.2]; rfl⟩
theorem CT.wt_no {p ct : Nat} {F : Int32} {d : Nat} (h : (X.sp p d && T d && !(X.u T d)) = false) : X.wt T B day p ct F d = 0 := by
  unfold CT.wt
  by_cases c : (T d && !(X.u T d)) = true
  · rw [if_pos c]
    unfold gWt
    rw [if_pos]
    left
    cases hs : gSk X.f X.cn X.ld X.nn d p F
    · rfl
    · rw [CT.sk_sp hs] at h
      rw [Bool.true_and, c] at h
      cases h
  · rw [if_neg c]
theorem CT.wt_yes {p ct : Nat} {F : Int32} {d : Nat} (h : (X.sp p d && T d && !(X.u T d)) = true) : X.wt T B day p ct F d = gWt X.f X.cn X.ld X.nn T (X.u T) X.t0 X.t1 B X.en day d p ct F := by
  unfold CT.wt
  rw [if_pos]
  cases hs : X.sp p d
  · rw [hs] at h; cases h
  · rw [hs] at h; simpa using h
/-- the rules hold as the words say -/
def CT.rx (X : CT) : Prop := RX X.f X.r X.t0 X.t1 X.en
theorem x_wt (hX : X.ok) (hR : X.rx) (hK : KZ X S) (hT : TX T (X.u T) day S) (hTn : ∀ d, T d = true → d < X.nk) (hB : ∀ d, T d = true → ∀ p, p < 12 → bt (S.1 48 d) p = B d p) {d p ct : Nat} {F : Int32} (hp : p < 12) (hct : ct < X.nc) (hd : (X.sp p d && T d && !(X.u T d)) = true) :
    ∃ S', fX9_weightOf S (nI d) (nI p) (nI ct) F = some (nI (X.wt T B day p ct F d), S') ∧ LE S S' := by
  have hTd : T d = true := by cases h : T d <;> simp [h] at hd ⊢
  obtain ⟨S', a1, a2⟩ := x_weight (B := fun c p => bt (S.1 48 c) p) hX.D hR hK.1 hT hTn (fun c _ p _ => rfl) (c := d) (p := p) (ct := ct) (F := F) (hTn d hTd) hp hct
  refine ⟨S', ?_, a2⟩
  rw [a1, CT.wt_yes hd, gWt_B (B' := B) (hB d hTd p hp)]
theorem x_mask (hK : KZ X S) (hT : TX T (X.u T) day S) {p : Nat} (hp : p < 12) : ∀ d, d < 32 → bt (S.1 42 p &&& S.1 35 6 &&& (S.1 35 7 ^^^ (-1))) d = (X.sp p d && T d && !(X.u T d)) := fun d hd => by
  rw [b_alive hT hd, hK.2.2.2.2 p hp d hd]
theorem KZ.le (h : KZ X S) (e : LE S S') : KZ X S' := h.lw e.lw
theorem x_binders (hX : X.ok) (hR : X.rx) (hK : KZ X S) (hT : TX T (X.u T) day S) (hTn : ∀ d, T d = true → d < X.nk) (hB : ∀ d, T d = true → ∀ p, p < 12 → bt (S.1 48 d) p = B d p) {p ct : Nat} {F : Int32} (hp : p < 12) (hct : ct < X.nc) :
    ∃ S' M, fX9_bindersOf S (nI p) (nI ct) F = some (M, S') ∧ LE S S' ∧ ∀ d, d < 32 → bt M d = decide (2 ≤ X.wt T B day p ct F d) := by
  have hnk := hX.D.2.2.2.1.2.2.1
  have hk := hX.D.2.2.2.1
  unfold fX9_bindersOf fX9_alive
  rw [glet_s, if_pos (gib_nI hp (by decide)), nI_clamp (by omega), gbv_s, glet_s]
  have hM := x_mask hK hT hp
  generalize (S.1 42 p &&& S.1 35 6) &&& (S.1 35 7 ^^^ (-1)) = M at hM ⊢
  have key : ∀ q d n S1 A, d + q = X.nk → q < n → LE S S1 → (∀ e, e < 32 → bt A e = (decide (e < d) && decide (2 ≤ X.wt T B day p ct F e))) → ∃ S' M', fX9_bindersOf_21 n S1 (nI p) (nI ct) F A M (nI d) = some (M', S') ∧ LE S S' ∧ ∀ d, d < 32 → bt M' d = decide (2 ≤ X.wt T B day p ct F d) := by
    intro q
    induction q with
    | zero =>
      intro d n S1 A hd hn hL hA
      obtain ⟨n, rfl⟩ := Nat.exists_eq_add_of_lt hn
      have e7 : S1.1 7 0 = nI X.nk := by rw [hL.1, hK.1.1.1 7 (by decide)]; exact hk.1
      rw [show 0 + n + 1 = n + 1 by omega, fX9_bindersOf_21, e7, if_pos (nI_le (by omega) (by omega))]
      refine ⟨S1, A, rfl, hL, fun e he => ?_⟩
      rw [hA e he]
      by_cases hed : e < d
      · simp [hed]
      · have hTe : T e = false := by
          cases h : T e
          · rfl
          · have := hTn e h; omega
        rw [CT.wt_no (by rw [hTe]; simp)]
        simp
    | succ q ih =>
      intro d n S1 A hd hn hL hA
      obtain ⟨n, rfl⟩ := Nat.exists_eq_add_of_lt hn
      have e7 : S1.1 7 0 = nI X.nk := by rw [hL.1, hK.1.1.1 7 (by decide)]; exact hk.1
      rw [show q + 1 + n + 1 = (q + 1 + n) + 1 from rfl, fX9_bindersOf_21, e7, if_neg (nI_ge (by omega) (by omega))]
      by_cases cM : M = 0
      · rw [if_pos cM]
        refine ⟨S1, A, rfl, hL, fun e he => ?_⟩
        rw [hA e he]
        have := hM e he
        rw [cM, b_0] at this
        rw [CT.wt_no this.symm]
        simp
      · rw [if_neg cM, x_has _ (show d < 32 by omega), gbv_s, hM d (by omega)]
        simp only [gz_0, glet_s, nI_1]
        have keep : X.wt T B day p ct F d < 2 → ∀ e, e < 32 → bt A e = (decide (e < d + 1) && decide (2 ≤ X.wt T B day p ct F e)) := by
          intro hz e he
          rw [hA e he]
          by_cases q : e = d
          · subst q
            have : ¬ (2 ≤ X.wt T B day p ct F e) := by omega
            simp [this]
          · have : (e < d + 1) = (e < d) := by apply propext; omega
            simp only [this]
        by_cases cd : (X.sp p d && T d && !(X.u T d)) = false
        · rw [if_pos cd]
          exact ih (d + 1) _ S1 A (by omega) (by omega) hL (keep (by rw [CT.wt_no cd]; omega))
        · rw [if_neg cd]
          have cd' : (X.sp p d && T d && !(X.u T d)) = true := bnf cd
          obtain ⟨S2, a1, a2⟩ := x_wt (B := B) (S := S1) hX hR (hK.le hL) (hT.le hL) hTn (fun d h p hp => by rw [hL.1]; exact hB d h p hp) (F := F) hp hct cd'
          have hw := CT.wt_le (X := X) (T := T) (B := B) (day := day) (p := p) (ct := ct) (F := F) d
          rw [a1, gbd_s]
          rw [show (2 : Int32) = nI 2 from rfl]
          simp only [nI_ltI (show X.wt T B day p ct F d < 2 ^ 31 by omega) (show 2 < 2 ^ 31 by omega)]
          by_cases c2 : X.wt T B day p ct F d < 2
          · rw [if_pos c2]
            exact ih (d + 1) _ S2 A (by omega) (by omega) (hL.tr a2) (keep c2)
          · rw [if_neg c2]
            refine ih (d + 1) _ S2 _ (by omega) (by omega) (hL.tr a2) (fun e he => ?_)
            apply bool_iff
            rw [b_put (show d < 32 by omega) he, hA e he]
            by_cases q : e = d
            · subst q
              have : 2 ≤ X.wt T B day p ct F e := by omega
              simp [this]
            · have : (e < d + 1) = (e < d) := by apply propext; omega
              simp [this, q]
  exact key X.nk 0 FU S 0 (by omega) (FU_gt (by omega)) LE.rf (fun e he => by rw [b_0]; simp)
noncomputable def CT.st (X : CT) (T : Nat → Bool) (B : Nat → Nat → Bool) (day : Int32) (p ct : Nat) (F : Int32) : Nat := if gLa X.f X.cn X.ld X.nn p day = true then 4 else gMx (X.wt T B day p ct F) 32
theorem x_standOf (hX : X.ok) (hR : X.rx) (hK : KZ X S) (hT : TX T (X.u T) day S) (hTn : ∀ d, T d = true → d < X.nk) (hB : ∀ d, T d = true → ∀ p, p < 12 → bt (S.1 48 d) p = B d p) {p ct : Nat} {F : Int32} (hp : p < 12) (hct : ct < X.nc) :
    ∃ S', fX9_standOf S (nI p) (nI ct) F = some (nI (X.st T B day p ct F), S') ∧ LE S S' := by
  have hnk := hX.D.2.2.2.1.2.2.1
  have hk := hX.D.2.2.2.1
  unfold fX9_standOf fX9_alive CT.st
  rw [x_laid hX.D hK.1.1 hT.1 (by omega), gbv_s]
  simp only [gz_0]
  cases hl : gLa X.f X.cn X.ld X.nn p day
  · rw [if_pos rfl, if_neg (by decide), glet_s, if_pos (gib_nI hp (by decide)), nI_clamp (by omega), gbv_s, glet_s]
    have hM := x_mask hK hT hp
    generalize (S.1 42 p &&& S.1 35 6) &&& (S.1 35 7 ^^^ (-1)) = M at hM ⊢
    have hw := fun d => CT.wt_le (X := X) (T := T) (B := B) (day := day) (p := p) (ct := ct) (F := F) d
    have key : ∀ q d n S1, d + q = X.nk → q < n → LE S S1 → ∃ S', fX9_standOf_31 n S1 (nI p) (nI ct) F (nI (gMx (X.wt T B day p ct F) d)) M (nI d) = some (nI (gMx (X.wt T B day p ct F) 32), S') ∧ LE S S' := by
      intro q
      induction q with
      | zero =>
        intro d n S1 hd hn hL
        obtain ⟨n, rfl⟩ := Nat.exists_eq_add_of_lt hn
        have e7 : S1.1 7 0 = nI X.nk := by rw [hL.1, hK.1.1.1 7 (by decide)]; exact hk.1
        rw [show 0 + n + 1 = n + 1 by omega, fX9_standOf_31, e7, if_pos (nI_le (by omega) (by omega))]
        have := gMx_rest (W := X.wt T B day p ct F) (m := d) (k := 32 - d) (fun e he => by
          have hTe : T e = false := by
            cases h : T e
            · rfl
            · have := hTn e h; omega
          rw [CT.wt_no (by rw [hTe]; simp)]
          exact Nat.zero_le _)
        rw [show d + (32 - d) = 32 by omega] at this
        rw [this]
        exact ⟨S1, rfl, hL⟩
      | succ q ih =>
        intro d n S1 hd hn hL
        obtain ⟨n, rfl⟩ := Nat.exists_eq_add_of_lt hn
        have e7 : S1.1 7 0 = nI X.nk := by rw [hL.1, hK.1.1.1 7 (by decide)]; exact hk.1
        have hm := gMx_le hw d
        rw [show q + 1 + n + 1 = (q + 1 + n) + 1 from rfl, fX9_standOf_31, e7, if_neg (nI_ge (by omega) (by omega)), show (3 : Int32) = nI 3 from rfl]
        simp only [nI_leI (show 3 < 2 ^ 31 by omega) (show gMx (X.wt T B day p ct F) d < 2 ^ 31 by omega)]
        by_cases c3 : 3 ≤ gMx (X.wt T B day p ct F) d
        · rw [if_pos c3]
          have := gMx_rest (W := X.wt T B day p ct F) (m := d) (k := 32 - d) (fun e he => by have := hw e; omega)
          rw [show d + (32 - d) = 32 by omega] at this
          rw [this]
          exact ⟨S1, rfl, hL⟩
        rw [if_neg c3]
        by_cases cM : M = 0
        · rw [if_pos cM]
          have z : ∀ e, X.wt T B day p ct F e = 0 := fun e => by
            by_cases he : e < 32
            · have := hM e he
              rw [cM, b_0] at this
              exact CT.wt_no this.symm
            · have hTe : T e = false := by
                cases h : T e
                · rfl
                · have := hTn e h; omega
              exact CT.wt_no (by rw [hTe]; simp)
          have := gMx_rest (W := X.wt T B day p ct F) (m := d) (k := 32 - d) (fun e he => by rw [z e]; exact Nat.zero_le _)
          rw [show d + (32 - d) = 32 by omega] at this
          rw [this]
          exact ⟨S1, rfl, hL⟩
        · rw [if_neg cM, x_has _ (show d < 32 by omega), gbv_s, hM d (by omega)]
          simp only [gz_0, glet_s, nI_1]
          by_cases cd : (X.sp p d && T d && !(X.u T d)) = false
          · rw [if_pos cd]
            have := ih (d + 1) (q + 1 + n) S1 (by omega) (by omega) hL
            rw [gMx, CT.wt_no cd, Nat.max_zero] at this
            exact this
          · rw [if_neg cd]
            have cd' : (X.sp p d && T d && !(X.u T d)) = true := bnf cd
            obtain ⟨S2, a1, a2⟩ := x_wt (B := B) (S := S1) hX hR (hK.le hL) (hT.le hL) hTn (fun d h p hp => by rw [hL.1]; exact hB d h p hp) (F := F) hp hct cd'
            have hwd := hw d
            rw [a1, gbd_s, nI_max (by omega) (by omega)]
            exact ih (d + 1) (q + 1 + n) S2 (by omega) (by omega) (hL.tr a2)
    exact key X.nk 0 FU S (by omega) (FU_gt (by omega)) LE.rf
  · rw [if_neg (by decide), if_pos rfl]
    exact ⟨S, rfl, LE.rf⟩
theorem x_rankOf (hX : X.ok) (hK : KZ X S) {c : Nat} (hc : c < X.nk) : fX9_rankOf S (nI c) = some (X.f 3 (X.f 8 c).toNatClampNeg) := by
  have hnk := hX.D.2.2.2.1.2.2.1
  have hnc := hX.D.2.1.2.2.1
  obtain ⟨o, ho, eo⟩ := gib_ex (hX.D.2.2.2.1.2.2.2.1 c hc).2.2.2.2.2.1 (by omega)
  unfold fX9_rankOf
  rw [if_pos (gib_nI (show c < 32 by omega) (by decide)), nI_clamp (by omega), hK.1.1.1 8 (by decide), hK.1.1.1 3 (by decide), eo, if_pos (gib_nI (show o < 6 by omega) (by decide))]
theorem x_leaderOf (hX : X.ok) (hR : X.rx) (hK : KZ X S) (hT : TX T (X.u T) day S) (hTn : ∀ d, T d = true → d < X.nk) (hB : ∀ d, T d = true → ∀ p, p < 12 → bt (S.1 48 d) p = B d p) {p ct : Nat} {F : Int32} (hp : p < 12) (hct : ct < X.nc) :
    ∃ L S', fX9_leaderOf S (nI p) (nI ct) F = some (L, S') ∧ LE S S' ∧ (if gLa X.f X.cn X.ld X.nn p day = true then L = -1 else gIsL X.f (X.wt T B day p ct F) L) := by
  have hnk := hX.D.2.2.2.1.2.2.1
  have htd := hX.D.1
  have hk := hX.D.2.2.2.1
  unfold fX9_leaderOf fX9_alive
  rw [x_laid hX.D hK.1.1 hT.1 (by omega), gbv_s]
  simp only [gz_0]
  cases hl : gLa X.f X.cn X.ld X.nn p day
  · rw [if_pos rfl, glet_s, glet_s, if_pos (gib_nI hp (by decide)), nI_clamp (by omega), gbv_s, glet_s]
    simp only [Bool.false_eq_true, if_false]
    have hM := x_mask hK hT hp
    generalize (S.1 42 p &&& S.1 35 6) &&& (S.1 35 7 ^^^ (-1)) = M at hM ⊢
    have hw := fun d => CT.wt_le (X := X) (T := T) (B := B) (day := day) (p := p) (ct := ct) (F := F) d
    obtain ⟨W, hW⟩ : ∃ W, W = X.wt T B day p ct F := ⟨_, rfl⟩
    rw [← hW] at hw ⊢
    have key : ∀ q i n S1 (A V : Int32), i + q = X.nk → q < n → LE S S1 → ((A = -1 ∧ V = 0 ∧ ∀ j, j < i → W (gOi X.f j) = 0) ∨ ∃ d, d < X.nk ∧ A = nI d ∧ V = nI (W d) ∧ 0 < W d ∧ (∃ j, j < i ∧ gOi X.f j = d) ∧ ∀ j, j < i → 0 < W (gOi X.f j) → gOi X.f j ≠ d → gBtr X.f W d (gOi X.f j)) → ∃ L S', fX9_leaderOf_34 n S1 (nI p) (nI ct) F A V M (nI i) = some (L, S') ∧ LE S S' ∧ gIsL X.f W L := by
      intro q
      induction q with
      | zero =>
        intro i n S1 A V hi hn hL hA
        obtain ⟨n, rfl⟩ := Nat.exists_eq_add_of_lt hn
        have e7 : S1.1 7 0 = nI X.nk := by rw [hL.1, hK.1.1.1 7 (by decide)]; exact hk.1
        rw [show 0 + n + 1 = n + 1 by omega, fX9_leaderOf_34, e7, if_pos (nI_le (by omega) (by omega))]
        refine ⟨A, S1, rfl, hL, ?_⟩
        have z : ∀ e, ¬ e < X.nk → W e = 0 := fun e he => by
          have hTe : T e = false := by
            cases h : T e
            · rfl
            · exact absurd (hTn e h) he
          rw [hW]
          exact CT.wt_no (by rw [hTe]; simp)
        rcases hA with ⟨h1, h2, h3⟩ | ⟨d, h0, h1, h2, h3, h4, h5⟩
        · refine Or.inl ⟨h1, fun e he => ?_⟩
          by_cases hen : e < X.nk
          · obtain ⟨a, a1, a2⟩ := oi_on hk htd hen
            rw [← a2]; exact h3 a (by omega)
          · exact z e hen
        · refine Or.inr ⟨d, by omega, h1, h3, fun e he hWe hne => ?_⟩
          by_cases hen : e < X.nk
          · obtain ⟨a, a1, a2⟩ := oi_on hk htd hen
            rw [← a2] at hWe hne ⊢
            exact h5 a (by omega) hWe hne
          · rw [z e hen] at hWe; omega
      | succ q ih =>
        intro i n S1 A V hi hn hL hA
        obtain ⟨n, rfl⟩ := Nat.exists_eq_add_of_lt hn
        have e7 : S1.1 7 0 = nI X.nk := by rw [hL.1, hK.1.1.1 7 (by decide)]; exact hk.1
        have ol := oi_lt hk (show i < X.nk by omega)
        have e13 : S1.1 13 i = nI (gOi X.f i) := by rw [hL.1, hK.1.1.1 13 (by decide)]; exact oi_eq hk (by omega)
        rw [show q + 1 + n + 1 = (q + 1 + n) + 1 from rfl, fX9_leaderOf_34, e7, if_neg (nI_ge (by omega) (by omega)), if_pos (gib_nI (show i < 32 by omega) (by decide)), nI_clamp (show i < 2 ^ 31 by omega), e13, glet_s, x_has _ (show gOi X.f i < 32 by omega), gbv_s, hM _ (by omega)]
        simp only [gz_0]
        have step : ∀ S2, LE S S2 → ∃ L S', fX9_leaderOf_81 (fX9_leaderOf_34 (q + 1 + n)) S2 (nI (W (gOi X.f i))) (nI p) (nI ct) F A V M (nI i) (nI (gOi X.f i)) = some (L, S') ∧ LE S S' ∧ gIsL X.f W L := by
          intro S2 hL2
          have hwi := hw (gOi X.f i)
          unfold fX9_leaderOf_81 fX9_leaderOf_118
          simp only [glet_s, nI_1]
          rcases hA with ⟨h1, h2, h3⟩ | ⟨d, h0, h1, h2, h3, h4, h5⟩
          · rw [h1, h2]
            simp only [show (0 : Int32) = nI 0 from rfl, nI_ltI (show 0 < 2 ^ 31 by omega) (show W (gOi X.f i) < 2 ^ 31 by omega), nI_eq (show W (gOi X.f i) < 2 ^ 31 by omega) (show 0 < 2 ^ 31 by omega)]
            by_cases c0 : 0 < W (gOi X.f i)
            · rw [if_pos c0]
              refine ih (i + 1) _ S2 _ _ (by omega) (by omega) hL2 (Or.inr ⟨gOi X.f i, ol, rfl, rfl, c0, ⟨i, by omega, rfl⟩, fun j hj hWj hne => ?_⟩)
              have : j ≠ i := fun z => hne (by rw [z])
              rw [h3 j (by omega)] at hWj; omega
            · rw [if_neg c0, if_pos (by omega), if_pos trivial]
              refine ih (i + 1) _ S2 _ _ (by omega) (by omega) hL2 (Or.inl ⟨rfl, rfl, fun j hj => ?_⟩)
              by_cases e : j = i
              · subst e; omega
              · exact h3 j (by omega)
          · have hwd := hw d
            have hAn : ¬ (A = (-1 : Int32)) := by
              rw [h1]
              intro z
              have : ¬ nI d < 0 := nI_pos (by omega)
              rw [z] at this
              exact this (by decide)
            have hdi : d ≠ gOi X.f i := by
              obtain ⟨j, j1, j2⟩ := h4
              intro z
              rw [← j2] at z
              have := oi_inj hk htd (by omega) (by omega) z
              omega
            have skip : (W (gOi X.f i) < W d ∨ (W (gOi X.f i) = W d ∧ X.f 3 (X.f 8 (gOi X.f i)).toNatClampNeg < X.f 3 (X.f 8 d).toNatClampNeg)) → ∃ L S', fX9_leaderOf_34 (q + 1 + n) S2 (nI p) (nI ct) F A V M (nI (i + 1)) = some (L, S') ∧ LE S S' ∧ gIsL X.f W L := by
              intro hz
              refine ih (i + 1) _ S2 _ _ (by omega) (by omega) hL2 (Or.inr ⟨d, h0, h1, h2, h3, ?_, fun j hj hWj hne => ?_⟩)
              · obtain ⟨j, j1, j2⟩ := h4
                exact ⟨j, by omega, j2⟩
              · by_cases e : j = i
                · subst e
                  rcases hz with hz | ⟨z1, z2⟩
                  · exact Or.inl hz
                  · exact Or.inr ⟨z1, Or.inl z2⟩
                · exact h5 j (by omega) hWj hne
            have take : (W d < W (gOi X.f i) ∨ (W d = W (gOi X.f i) ∧ ¬ X.f 3 (X.f 8 (gOi X.f i)).toNatClampNeg < X.f 3 (X.f 8 d).toNatClampNeg)) → ∃ L S', fX9_leaderOf_34 (q + 1 + n) S2 (nI p) (nI ct) F (nI (gOi X.f i)) (nI (W (gOi X.f i))) M (nI (i + 1)) = some (L, S') ∧ LE S S' ∧ gIsL X.f W L := by
              intro hz
              have bd : gBtr X.f W (gOi X.f i) d := by
                rcases hz with hz | ⟨z1, z2⟩
                · exact Or.inl hz
                · refine Or.inr ⟨z1, ?_⟩
                  by_cases e : X.f 3 (X.f 8 d).toNatClampNeg = X.f 3 (X.f 8 (gOi X.f i)).toNatClampNeg
                  · obtain ⟨j, j1, j2⟩ := h4
                    refine Or.inr ⟨e, ?_⟩
                    rw [← j2]
                    exact (oi_lat hk htd (by omega) (by omega)).mpr j1
                  · exact Or.inl (fa_le_ne (fa_of_nlt z2) e)
              refine ih (i + 1) _ S2 _ _ (by omega) (by omega) hL2 (Or.inr ⟨gOi X.f i, ol, rfl, rfl, by rcases hz with z | ⟨z, -⟩ <;> omega, ⟨i, by omega, rfl⟩, fun j hj hWj hne => ?_⟩)
              have hji : j < i := by
                have : j ≠ i := fun z => hne (by rw [z])
                omega
              by_cases e : gOi X.f j = d
              · rw [e]; exact bd
              · have b2 := h5 j hji hWj e
                have lt : gLat X.f (gOi X.f i) (gOi X.f j) := (oi_lat hk htd (by omega) (by omega)).mpr hji
                rcases bd with b | ⟨b1, b3⟩ <;> rcases b2 with c | ⟨c1, c3⟩
                · exact Or.inl (by omega)
                · exact Or.inl (by omega)
                · exact Or.inl (by omega)
                · refine Or.inr ⟨by omega, ?_⟩
                  rcases b3 with b | ⟨b4, b5⟩ <;> rcases c3 with c | ⟨c4, c5⟩
                  · exact Or.inl (fa_trans c (fa_of_lt b).1)
                  · exact Or.inl (by rw [c4]; exact b)
                  · exact Or.inl (by rw [← b4]; exact c)
                  · exact Or.inr ⟨c4.trans b4, lt⟩
            rw [h2]
            simp only [nI_ltI (show W d < 2 ^ 31 by omega) (show W (gOi X.f i) < 2 ^ 31 by omega), nI_eq (show W (gOi X.f i) < 2 ^ 31 by omega) (show W d < 2 ^ 31 by omega)]
            rw [← h2]
            by_cases c1 : W d < W (gOi X.f i)
            · rw [if_pos c1]
              exact take (Or.inl c1)
            · rw [if_neg c1]
              by_cases c2 : W (gOi X.f i) = W d
              · rw [if_pos c2, if_neg hAn, x_rankOf hX (hK.le hL2) ol, gbv_s, h1, x_rankOf hX (hK.le hL2) h0, gbv_s]
                rw [← h1]
                by_cases c3 : X.f 3 (X.f 8 (gOi X.f i)).toNatClampNeg < X.f 3 (X.f 8 d).toNatClampNeg
                · rw [if_pos c3]
                  exact skip (Or.inr ⟨c2, c3⟩)
                · rw [if_neg c3]
                  exact take (Or.inr ⟨c2.symm, c3⟩)
              · rw [if_neg c2]
                exact skip (Or.inl (by omega))
        by_cases cd : (X.sp p (gOi X.f i) && T (gOi X.f i) && !(X.u T (gOi X.f i))) = false
        · rw [if_pos cd]
          have := step S1 hL
          rw [hW, CT.wt_no cd, ← hW] at this
          exact this
        · rw [if_neg cd]
          have cd' : (X.sp p (gOi X.f i) && T (gOi X.f i) && !(X.u T (gOi X.f i))) = true := bnf cd
          obtain ⟨S2, a1, a2⟩ := x_wt (B := B) (S := S1) hX hR (hK.le hL) (hT.le hL) hTn (fun d h p hp => by rw [hL.1]; exact hB d h p hp) (F := F) hp hct cd'
          rw [a1, gbd_s, ← hW]
          exact step S2 (hL.tr a2)
    exact key X.nk 0 FU S (-1) 0 (by omega) (FU_gt (by omega)) LE.rf (Or.inl ⟨rfl, rfl, fun j hj => absurd hj (Nat.not_lt_zero _)⟩)
  · rw [if_neg (by decide)]
    exact ⟨-1, S, rfl, LE.rf, by rw [if_pos rfl]⟩
end

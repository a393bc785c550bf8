/-! what is asked of a case: votes, holding, statutes, doubts, overruling, binding (in words, and the class) -/
def gAny (m : Nat) (P : Nat → Bool) : Bool := (List.range m).any P
theorem gAny_iff {m : Nat} {P : Nat → Bool} : gAny m P = true ↔ ∃ n, n < m ∧ P n = true := by
  unfold gAny
  rw [List.any_eq_true]
  constructor
  · rintro ⟨n, h1, h2⟩; exact ⟨n, List.mem_range.mp h1, h2⟩
  · rintro ⟨n, h1, h2⟩; exact ⟨n, List.mem_range.mpr h1, h2⟩
theorem gAny_f {m : Nat} {P : Nat → Bool} (h : ∀ n, n < m → P n = false) : gAny m P = false := by
  cases hg : gAny m P
  · rfl
  · obtain ⟨n, h1, h2⟩ := gAny_iff.mp hg
    rw [h n h1] at h2; cases h2
theorem gAny_cong {m : Nat} {P Q : Nat → Bool} (h : ∀ n, n < m → P n = Q n) : gAny m P = gAny m Q := by
  cases hg : gAny m Q
  · exact gAny_f (fun n hn => by
      rw [h n hn]
      cases hq : Q n
      · rfl
      · rw [gAny_iff.mpr ⟨n, hn, hq⟩] at hg; cases hg)
  · obtain ⟨n, h1, h2⟩ := gAny_iff.mp hg
    exact gAny_iff.mpr ⟨n, h1, by rw [h n h1]; exact h2⟩
theorem bool_iff {a b : Bool} (h : a = true ↔ b = true) : a = b := by
  cases a <;> cases b <;> simp_all
section Words
variable (f : Nat → Nat → Int32) (cn : Nat → Bool) (ld : Nat → Nat) (nn : Nat)
/-- a note speaks of a point on these facts -/
def gSp (p : Nat) (F : Int32) (n : Nat) : Bool := decide (ld (f 19 n).toNatClampNeg = p) && decide (f 20 n &&& (F ^^^ (-1)) = 0)
def gVj (c p : Nat) (F : Int32) (j : Nat) : Bool := gAny nn (fun n => gOpc f cn c n && decide (f 15 n = 0) && gSp f ld p F n && decide ((f 18 n).toNatClampNeg = j))
def gVt (c p : Nat) (F : Int32) : Nat := fb_ct (gVj f cn ld nn c p F) 3
def gHe (c p : Nat) (F : Int32) : Bool := decide ((f 10 c).toNatClampNeg < 2 * gVt f cn ld nn c p F)
def gSk (c p : Nat) (F : Int32) : Bool := gAny nn (fun n => gOpc f cn c n && gSp f ld p F n)
def gTk (c p : Nat) (day : Int32) : Bool := gAny nn (fun n => cn n && decide (f 15 n = 5) && decide (ld (f 19 n).toNatClampNeg = p) && decide (f 20 n ≤ day) && decide (f 9 c ≤ f 20 n))
/-- the latest statute for a point by a day, among the first m notes -/
def gLs (p : Nat) (day : Int32) : Nat → Int32 × Bool
  | 0 => (-1, false)
  | m + 1 => if gStt f cn m = true ∧ ld (f 19 m).toNatClampNeg = p ∧ f 20 m ≤ day ∧ (gLs p day m).1 ≤ f 20 m then (f 20 m, decide (f 15 m = 6)) else gLs p day m
def gLa (p : Nat) (day : Int32) : Bool := (gLs f cn ld p day nn).2
variable (T U : Nat → Bool)
def gTq (kd : Int32) (c p d : Nat) : Bool := gAny nn (fun n => cn n && decide (f 15 n = kd) && decide ((f 18 n).toNatClampNeg = c) && decide ((f 17 n).toNatClampNeg = d) && decide (ld (f 19 n).toNatClampNeg = p))
def gDb (c p : Nat) : Nat := fb_ct (fun d => T d && !(U d) && gTq f cn ld nn 3 c p d) 32
/-- the eight names of the rules: of a case against a court -/
def gNm (c ct vt : Nat) (age : Int32) (db : Nat) : Nat → Int64 := fun i => ([(f 3 (f 8 c).toNatClampNeg).toInt64, (f 3 ct).toInt64, (if (f 8 c).toNatClampNeg = ct then 1 else 0), (if f 4 (f 8 c).toNatClampNeg = f 4 ct then 1 else 0), (f 10 c).toInt64, (nI vt).toInt64, age.toInt64, (nI db).toInt64] : List Int64).getD i 0
variable (t0 t1 : (Nat → Int64) → Bool)
def gOv (c p : Nat) : Bool := gAny 32 (fun d => T d && !(U d) && gTq f cn ld nn 2 c p d && t1 (gNm f d (f 8 c).toNatClampNeg (gVt f cn ld nn d p (f 11 d)) (f 9 d - f 9 c) (gDb f cn ld nn T U c p)))
def gBd (day : Int32) (c p ct : Nat) (F : Int32) : Bool := t0 (gNm f c ct (gVt f cn ld nn c p F) (day - f 9 c) (gDb f cn ld nn T U c p))
/-- what a case makes of a point: 0 nothing, 1 it only persuades, 2 it binds and is doubted, 3 it binds -/
def gWt (B : Nat → Nat → Bool) (en : Nat) (day : Int32) (c p ct : Nat) (F : Int32) : Nat :=
  if gSk f cn ld nn c p F = false ∨ gTk f cn ld nn c p day = true ∨ gOv f cn ld nn T U t1 c p = true then 0
  else if B c p = true ∨ gHe f cn ld nn c p F = false ∨ gBd f cn ld nn T U t0 day c p ct F = false then 1
  else if gDb f cn ld nn T U c p < en then 3 else 2
end Words
/-- the class's tables, over words for what counts and which points are one -/
def KX (f : Nat → Nat → Int32) (cn : Nat → Bool) (ld : Nat → Nat) (np nk nn : Nat) (S : GS) : Prop :=
  (∀ c, c ≤ 20 → S.1 c = f c) ∧ (∀ p, p < np → S.1 37 p = nI (ld p) ∧ ld p < np) ∧
  (∀ c, c < 32 → ∀ p, p < 12 → ∀ d, d < 32 → bt (S.1 40 (c * 12 + p)) d = gTq f cn ld nn 2 c p d) ∧
  (∀ c, c < 32 → ∀ p, p < 12 → ∀ d, d < 32 → bt (S.1 41 (c * 12 + p)) d = gTq f cn ld nn 3 c p d) ∧
  (∀ c, c < nk → ∃ s e, s ≤ e ∧ e ≤ 120 ∧ S.1 44 c = nI s ∧ S.1 45 c = nI e ∧ (∀ i, s ≤ i → i < e → ∃ n, n < nn ∧ S.1 43 i = nI n ∧ gOpc f cn c n = true) ∧ (∀ n, n < nn → gOpc f cn c n = true → ∃ i, s ≤ i ∧ i < e ∧ S.1 43 i = nI n)) ∧
  S.1 36 14 = nI (fb_ct (gStt f cn) nn) ∧ (∀ n, n < nn → gStt f cn n = true → S.1 46 (fb_ct (gStt f cn) n) = nI n)
/-- the database: sizes and notes -/
def DBx (f : Nat → Nat → Int32) (td nc np nk nn : Nat) : Prop := td ≤ 9999 ∧ IVc f nc ∧ IVp f np ∧ IVk f td nc nk ∧ IVn f td np nk nn
section ClassAsks
variable {f : Nat → Nat → Int32} {cn : Nat → Bool} {ld : Nat → Nat} {td nc np nk nn : Nat} {S : GS}
theorem DBx.op (h : DBx f td nc np nk nn) {c n : Nat} (hn : n < nn) (hg : gOpc f cn c n = true) : gib (f 19 n) np = true ∧ gib (f 18 n) 3 = true ∧ (f 17 n).toNatClampNeg = c := by
  have h1 : f 15 n ≤ 1 ∧ (f 17 n).toNatClampNeg = c := by
    simp [gOpc, gOpn] at hg
    exact ⟨hg.1.2, hg.2⟩
  have w := (h.2.2.2.2.2.2.2 n hn).2.2.2.2.1 h1.1
  exact ⟨w.2.2.2.2.2.2.1, w.2.2.2.2.2.1, h1.2⟩
theorem x_speaks (h : DBx f td nc np nk nn) (hK : KX f cn ld np nk nn S) {n p : Nat} {F : Int32} (hn : n < nn) (hp : p < 2 ^ 31) (h19 : gib (f 19 n) np = true) : fX9_speaks S (nI n) (nI p) F = some (gz (gSp f ld p F n)) := by
  obtain ⟨k1, k2, -⟩ := hK
  have hnn := h.2.2.2.2.2.2.1
  have hnp := h.2.2.1.2.2.1
  obtain ⟨l1, l2⟩ := k2 _ (gib_all h19 (by omega)).1
  unfold fX9_speaks
  rw [if_pos (gib_nI (show n < 120 by omega) (by decide)), nI_clamp (by omega), k1 19 (by decide), k1 20 (by decide), if_pos (gib_ge h19 hnp), l1]
  simp only [nI_eq (show ld (f 19 n).toNatClampNeg < 2 ^ 31 by omega) hp]
  unfold gSp
  by_cases c1 : ld (f 19 n).toNatClampNeg = p
  · by_cases c2 : f 20 n &&& (F ^^^ (-1)) = 0
    · rw [if_pos c1, if_pos c2, decide_eq_true c1, decide_eq_true c2]; rfl
    · rw [if_pos c1, if_neg c2, decide_eq_true c1, decide_eq_false c2]; rfl
  · rw [if_neg c1, decide_eq_false c1]; rfl
theorem x_votes (h : DBx f td nc np nk nn) (hK : KX f cn ld np nk nn S) {c p : Nat} {F : Int32} (hc : c < nk) (hp : p < 2 ^ 31) : fX9_votesFor S (nI c) (nI p) F = some (nI (gVt f cn ld nn c p F)) := by
  obtain ⟨k1, k2, -, -, k5, -⟩ := id hK
  have hnn := h.2.2.2.2.2.2.1
  have hnk := h.2.2.2.1.2.2.1
  obtain ⟨s, e, q1, q2, q3, q4, q5, q6⟩ := k5 c hc
  have gc32 : gib (nI c) 32 = true := gib_nI (by omega) (by decide)
  have ec : (nI c).toNatClampNeg = c := nI_clamp (by omega)
  unfold fX9_votesFor
  simp only [glet_s, gc32, if_true, ec, q3]
  have key : ∀ r i a n, i + r = e → s ≤ i → r < n → (∀ j, j < 32 → (bt a j = true ↔ ∃ i', s ≤ i' ∧ i' < i ∧ ∃ m, m < nn ∧ S.1 43 i' = nI m ∧ (decide (f 15 m = 0) && gSp f ld p F m && decide ((f 18 m).toNatClampNeg = j)) = true)) → fX9_votesFor_14 n S (nI c) (nI p) F a (nI i) = some (nI (gVt f cn ld nn c p F)) := by
    intro r
    induction r with
    | zero =>
      intro i a n hi hs hn ha
      obtain ⟨n, rfl⟩ := Nat.exists_eq_add_of_lt hn
      have hie : i = e := by omega
      rw [show 0 + n + 1 = n + 1 by omega, fX9_votesFor_14, if_pos gc32, ec, q4, hie, if_pos (nI_le (Nat.le_refl _) (by omega)), x_bits, gbv_s]
      congr 2
      unfold gVt
      have hb : ∀ j, j < 32 → bt a j = gVj f cn ld nn c p F j := by
        intro j hj
        apply bool_iff
        rw [ha j hj]
        unfold gVj
        rw [gAny_iff]
        constructor
        · rintro ⟨i', x1, x2, m, x3, x4, x5⟩
          obtain ⟨m', y1, y2, y3⟩ := q5 i' x1 (by omega)
          have : m' = m := by
            rw [y2] at x4
            exact (nI_eq (by omega) (by omega)).mp x4
          subst this
          refine ⟨m', y1, ?_⟩
          rw [y3]; simpa using x5
        · rintro ⟨m, x1, x2⟩
          simp only [Bool.and_eq_true] at x2
          obtain ⟨⟨⟨x3, x4⟩, x5⟩, x6⟩ := x2
          obtain ⟨i', y1, y2, y3⟩ := q6 m x1 x3
          exact ⟨i', y1, by omega, m, x1, y3, by simp [x4, x5, x6]⟩
      have e3 : fb_ct (bt a) 32 = fb_ct (gVj f cn ld nn c p F) 32 := fb_ct_cong hb
      rw [e3, show (32 : Nat) = 3 + 29 from rfl, fb_ct_split]
      have z : fb_ct (fun k => gVj f cn ld nn c p F (3 + k)) 29 = 0 := by
        rw [fb_ct_zero]
        intro k hk
        apply gAny_f
        intro m hm
        cases hg : gOpc f cn c m
        · rfl
        · have := (gib_all (h.op hm hg).2.1 (by decide)).1
          have h2 : ¬ (f 18 m).toNatClampNeg = 3 + k := by omega
          simp [h2]
      omega
    | succ r ih =>
      intro i a n hi hs hn ha
      obtain ⟨n, rfl⟩ := Nat.exists_eq_add_of_lt hn
      obtain ⟨m, m1, m2, m3⟩ := q5 i hs (by omega)
      obtain ⟨o1, o2, o3⟩ := h.op m1 m3
      obtain ⟨j3, j4⟩ := gib_all o2 (by decide)
      have em : (nI m).toNatClampNeg = m := nI_clamp (by omega)
      rw [show r + 1 + n + 1 = (r + 1 + n) + 1 from rfl, fX9_votesFor_14, if_pos gc32, ec, q4, if_neg (nI_ge (by omega) (by omega)), if_pos (gib_nI (show i < 120 by omega) (by decide)), nI_clamp (show i < 2 ^ 31 by omega), m2, glet_s, if_pos (gib_nI (show m < 120 by omega) (by decide)), em, k1 15 (by decide), k1 18 (by decide)]
      have next : ∀ a', (∀ j, j < 32 → (bt a' j = true ↔ (bt a j = true ∨ (decide (f 15 m = 0) && gSp f ld p F m && decide ((f 18 m).toNatClampNeg = j)) = true))) → fX9_votesFor_14 (r + 1 + n) S (nI c) (nI p) F a' (nI (i + 1)) = some (nI (gVt f cn ld nn c p F)) := by
        intro a' ha'
        refine ih (i + 1) a' (r + 1 + n) (by omega) (by omega) (by omega) (fun j hj => ?_)
        rw [ha' j hj, ha j hj]
        constructor
        · rintro (⟨i', x1, x2, x3⟩ | x)
          · exact ⟨i', x1, by omega, x3⟩
          · exact ⟨i, hs, by omega, m, m1, m2, x⟩
        · rintro ⟨i', x1, x2, m', x3, x4, x5⟩
          by_cases hii : i' = i
          · subst hii
            have : m' = m := by
              rw [m2] at x4
              exact ((nI_eq (by omega) (by omega)).mp x4).symm
            subst this
            exact Or.inr x5
          · exact Or.inl ⟨i', x1, by omega, m', x3, x4, x5⟩
      by_cases c0 : f 15 m = 0
      · rw [if_pos c0, x_speaks h hK m1 hp o1, gbv_s]
        simp only [gz_0]
        cases hsp : gSp f ld p F m
        · rw [if_pos rfl, glet_s, nI_1]
          exact next a (fun j hj => by simp [hsp])
        · rw [if_neg (by decide)]
          simp only [glet_s, nI_1]
          rw [j4]
          refine next _ (fun j hj => ?_)
          rw [b_put (show (f 18 m).toNatClampNeg < 32 by omega) hj]
          constructor
          · rintro (x | x)
            · exact Or.inl x
            · exact Or.inr (by simp [c0, hsp, x])
          · rintro (x | x)
            · exact Or.inl x
            · simp [c0, hsp] at x; exact Or.inr x.symm
      · rw [if_neg c0, glet_s, nI_1]
        exact next a (fun j hj => by simp [c0])
  exact key (e - s) s 0 FU (by omega) (Nat.le_refl _) (FU_gt (by omega)) (fun j hj => by
    rw [b_0]
    constructor
    · intro z; cases z
    · rintro ⟨i', x1, x2, -⟩; omega)
theorem gVt_le (c p : Nat) (F : Int32) : gVt f cn ld nn c p F ≤ 3 := fb_ct_le _ _
theorem x_held (h : DBx f td nc np nk nn) (hK : KX f cn ld np nk nn S) {c p : Nat} {F : Int32} (hc : c < nk) (hp : p < 2 ^ 31) : fX9_isHeld S (nI c) (nI p) F = some (gz (gHe f cn ld nn c p F)) := by
  have hnk := h.2.2.2.1.2.2.1
  have w := h.2.2.2.1.2.2.2.1 c hc
  obtain ⟨j, hj, ej⟩ := gib_ex w.2.2.2.2.2.2.2.1 (by decide)
  have hv := gVt_le (f := f) (cn := cn) (ld := ld) (nn := nn) c p F
  unfold fX9_isHeld
  rw [x_votes h hK hc hp, gbv_s, if_pos (gib_nI (show c < 32 by omega) (by decide)), nI_clamp (by omega), hK.1 10 (by decide), ej, show (2 : Int32) = nI 2 from rfl, pk_mul]
  unfold gHe
  rw [ej, nI_clamp (by omega)]
  simp only [nI_leI (show gVt f cn ld nn c p F * 2 < 2 ^ 31 by omega) (show j < 2 ^ 31 by omega)]
  by_cases c1 : gVt f cn ld nn c p F * 2 ≤ j
  · rw [if_pos c1, decide_eq_false (by omega)]; rfl
  · rw [if_neg c1, decide_eq_true (by omega)]; rfl
theorem x_spoken (h : DBx f td nc np nk nn) (hK : KX f cn ld np nk nn S) {c p : Nat} {F : Int32} (hc : c < nk) (hp : p < 2 ^ 31) : fX9_isSpokenOf S (nI c) (nI p) F = some (gz (gSk f cn ld nn c p F)) := by
  obtain ⟨k1, k2, -, -, k5, -⟩ := id hK
  have hnn := h.2.2.2.2.2.2.1
  have hnk := h.2.2.2.1.2.2.1
  obtain ⟨s, e, q1, q2, q3, q4, q5, q6⟩ := k5 c hc
  have gc32 : gib (nI c) 32 = true := gib_nI (by omega) (by decide)
  have ec : (nI c).toNatClampNeg = c := nI_clamp (by omega)
  unfold fX9_isSpokenOf
  simp only [glet_s, gc32, if_true, ec, q3]
  have key : ∀ r i n, i + r = e → s ≤ i → r < n → (∀ i', s ≤ i' → i' < i → ∀ m, m < nn → S.1 43 i' = nI m → gSp f ld p F m = false) → fX9_isSpokenOf_11 n S (nI c) (nI p) F (nI i) = some (gz (gSk f cn ld nn c p F)) := by
    intro r
    induction r with
    | zero =>
      intro i n hi hs hn ha
      obtain ⟨n, rfl⟩ := Nat.exists_eq_add_of_lt hn
      have hie : i = e := by omega
      rw [show 0 + n + 1 = n + 1 by omega, fX9_isSpokenOf_11, if_pos gc32, ec, q4, hie, if_pos (nI_le (Nat.le_refl _) (by omega))]
      have : gSk f cn ld nn c p F = false := by
        apply gAny_f
        intro m hm
        cases hg : gOpc f cn c m
        · rfl
        · obtain ⟨i', y1, y2, y3⟩ := q6 m hm hg
          rw [ha i' y1 (by omega) m hm y3]; rfl
      rw [this]; rfl
    | succ r ih =>
      intro i n hi hs hn ha
      obtain ⟨n, rfl⟩ := Nat.exists_eq_add_of_lt hn
      obtain ⟨m, m1, m2, m3⟩ := q5 i hs (by omega)
      obtain ⟨o1, o2, o3⟩ := h.op m1 m3
      rw [show r + 1 + n + 1 = (r + 1 + n) + 1 from rfl, fX9_isSpokenOf_11, if_pos gc32, ec, q4, if_neg (nI_ge (by omega) (by omega)), if_pos (gib_nI (show i < 120 by omega) (by decide)), nI_clamp (show i < 2 ^ 31 by omega), m2, x_speaks h hK m1 hp o1, gbv_s]
      simp only [gz_0]
      cases hsp : gSp f ld p F m
      · rw [if_pos rfl, glet_s, nI_1]
        refine ih (i + 1) (r + 1 + n) (by omega) (by omega) (by omega) (fun i' x1 x2 m' x3 x4 => ?_)
        by_cases hii : i' = i
        · subst hii
          have : m' = m := by
            rw [m2] at x4
            exact ((nI_eq (by omega) (by omega)).mp x4).symm
          subst this
          exact hsp
        · exact ha i' x1 (by omega) m' x3 x4
      · rw [if_neg (by decide)]
        have : gSk f cn ld nn c p F = true := gAny_iff.mpr ⟨m, m1, by rw [m3, hsp]; rfl⟩
        rw [this]; rfl
  exact key (e - s) s FU (by omega) (Nat.le_refl _) (FU_gt (by omega)) (fun i' x1 x2 => by omega)
/-- the statutes, one by one -/
theorem stt_at (h : DBx f td nc np nk nn) (hK : KX f cn ld np nk nn S) {i : Nat} (hi : i < fb_ct (gStt f cn) nn) : ∃ m, m < nn ∧ gStt f cn m = true ∧ fb_ct (gStt f cn) m = i ∧ S.1 46 i = nI m ∧ gib (f 19 m) np = true ∧ gib (f 20 m) 10000 = true := by
  obtain ⟨m, m1, m2, m3⟩ := fb_ct_kth hi
  have e := hK.2.2.2.2.2.2 m m1 m2
  rw [m3] at e
  have w := h.2.2.2.2.2.2.2 m m1
  have k56 : f 15 m = 5 ∨ f 15 m = 6 := by
    simp [gStt] at m2
    exact m2.2
  have w7 := w.2.2.2.2.2.2.1 (by rcases k56 with z | z <;> rw [z] <;> decide) (by rcases k56 with z | z <;> rw [z] <;> decide)
  exact ⟨m, m1, m2, m3, e, w7.2.2.1, w7.2.2.2⟩
theorem x_taken (h : DBx f td nc np nk nn) (hK : KX f cn ld np nk nn S) {c p : Nat} {day : Int32} (hd : S.1 35 5 = day) (hc : c < nk) (hp : p < 2 ^ 31) : fX9_isTaken S (nI c) (nI p) = some (gz (gTk f cn ld nn c p day)) := by
  have hnn := h.2.2.2.2.2.2.1
  have hnk := h.2.2.2.1.2.2.1
  have hnp := h.2.2.1.2.2.1
  have hM := fb_ct_le (gStt f cn) nn
  unfold fX9_isTaken
  rw [glet_s, show (0 : Int32) = nI 0 from rfl]
  have key : ∀ r i n, i + r = fb_ct (gStt f cn) nn → r < n → (∀ m, m < nn → gStt f cn m = true → fb_ct (gStt f cn) m < i → (decide (f 15 m = 5) && decide (ld (f 19 m).toNatClampNeg = p) && decide (f 20 m ≤ day) && decide (f 9 c ≤ f 20 m)) = false) → fX9_isTaken_2 n S (nI c) (nI p) (nI i) = some (gz (gTk f cn ld nn c p day)) := by
    intro r
    induction r with
    | zero =>
      intro i n hi hn ha
      obtain ⟨n, rfl⟩ := Nat.exists_eq_add_of_lt hn
      rw [show 0 + n + 1 = n + 1 by omega, fX9_isTaken_2, hK.2.2.2.2.2.1, if_pos (nI_le (by omega) (by omega))]
      have : gTk f cn ld nn c p day = false := by
        apply gAny_f
        intro m hm
        by_cases hz : cn m = true ∧ f 15 m = 5
        · have hs : gStt f cn m = true := by simp [gStt, hz]
          have := ha m hm hs (by
            have h1 := fb_ct_mono (gStt f cn) (show m + 1 ≤ nn by omega)
            rw [fb_ct_succ, hs] at h1
            simp at h1
            omega)
          rw [hz.1]; simpa using this
        · cases hcn : cn m
          · rfl
          · have : ¬ f 15 m = 5 := fun q => hz ⟨hcn, q⟩
            simp [this]
      rw [this]; rfl
    | succ r ih =>
      intro i n hi hn ha
      obtain ⟨n, rfl⟩ := Nat.exists_eq_add_of_lt hn
      obtain ⟨m, m1, m2, m3, m4, m5, m6⟩ := stt_at h hK (i := i) (by omega)
      obtain ⟨l1, l2⟩ := hK.2.1 _ (gib_all m5 (by omega)).1
      have em : (nI m).toNatClampNeg = m := nI_clamp (by omega)
      have g120 : gib (nI m) 120 = true := gib_nI (by omega) (by decide)
      have next : (decide (f 15 m = 5) && decide (ld (f 19 m).toNatClampNeg = p) && decide (f 20 m ≤ day) && decide (f 9 c ≤ f 20 m)) = false → fX9_isTaken_2 (r + 1 + n) S (nI c) (nI p) (nI (i + 1)) = some (gz (gTk f cn ld nn c p day)) := by
        intro hz
        refine ih (i + 1) (r + 1 + n) (by omega) (by omega) (fun m' x1 x2 x3 => ?_)
        by_cases hmm : fb_ct (gStt f cn) m' = i
        · have : m' = m := fb_ct_kth_one x2 m2 (hmm.trans m3.symm)
          subst this
          exact hz
        · exact ha m' x1 x2 (by omega)
      have e64 : fX9_isTaken_64 (fX9_isTaken_2 (r + 1 + n)) S (nI c) (nI p) (nI i) (nI m) = fX9_isTaken_2 (r + 1 + n) S (nI c) (nI p) (nI (i + 1)) := by
        unfold fX9_isTaken_64 fX9_isTaken_65
        rw [if_pos rfl, glet_s, nI_1]
      rw [show r + 1 + n + 1 = (r + 1 + n) + 1 from rfl, fX9_isTaken_2, hK.2.2.2.2.2.1, if_neg (nI_ge (by omega) (by omega)), if_pos (gib_nI (show i < 120 by omega) (by decide)), nI_clamp (show i < 2 ^ 31 by omega), m4, glet_s, if_pos g120, em, hK.1 15 (by decide), hK.1 19 (by decide)]
      by_cases c5 : f 15 m = 5
      · rw [if_pos c5, if_pos (gib_ge m5 hnp), l1]
        simp only [nI_eq (show ld (f 19 m).toNatClampNeg < 2 ^ 31 by omega) hp]
        by_cases cl : ld (f 19 m).toNatClampNeg = p
        · rw [if_pos cl]
          unfold fX9_isTaken_65
          rw [if_neg i10, if_pos g120, em, hK.1 20 (by decide), hd]
          by_cases cd : day < f 20 m
          · rw [if_pos cd, glet_s, nI_1]
            exact next (by simp [(fa_of_lt cd).2.1])
          · rw [if_neg cd, if_pos (gib_nI (show c < 32 by omega) (by decide)), nI_clamp (show c < 2 ^ 31 by omega), hK.1 9 (by decide)]
            by_cases cc : f 20 m < f 9 c
            · rw [if_pos cc, glet_s, nI_1]
              exact next (by simp [(fa_of_lt cc).2.1])
            · rw [if_neg cc]
              have hcn : cn m = true := by simp [gStt] at m2; exact m2.1
              have : gTk f cn ld nn c p day = true := gAny_iff.mpr ⟨m, m1, by simp [hcn, c5, cl, fa_of_nlt cd, fa_of_nlt cc]⟩
              rw [this]; rfl
        · rw [if_neg cl, e64]
          exact next (by simp [cl])
      · rw [if_neg c5, e64]
        exact next (by simp [c5])
  exact key (fb_ct (gStt f cn) nn) 0 FU (by omega) (FU_gt (by omega)) (fun m _ _ x => absurd x (Nat.not_lt_zero _))
end ClassAsks

/-! undone and blind in words; the class goes to a day -/
theorem fix_ex {V : Type} (v : V) (P : Nat → Prop) (μ : Nat → Nat) (G : (Nat → V) → Nat → V) (hG : ∀ c, P c → ∀ h h' : Nat → V, (∀ d, P d → μ d < μ c → h d = h' d) → G h c = G h' c) : ∃ h : Nat → V, ∀ c, P c → h c = G h c := by
  obtain ⟨it, i0, i1⟩ : ∃ it : Nat → Nat → V, it 0 = (fun _ => v) ∧ ∀ n, it (n + 1) = G (it n) := ⟨fun n => Nat.rec (fun _ => v) (fun _ h => G h) n, rfl, fun _ => rfl⟩
  have st : ∀ n m c, P c → μ c < n → μ c < m → it n c = it m c := by
    intro n
    induction n with
    | zero => intro m c _ h; omega
    | succ n ih =>
      intro m c hP h1 h2
      cases m with
      | zero => omega
      | succ m =>
        rw [i1, i1]
        exact hG c hP _ _ (fun d hd hl => ih m d hd (by omega) (by omega))
  refine ⟨fun c => it (μ c + 1) c, fun c hP => ?_⟩
  show it (μ c + 1) c = _
  rw [i1]
  exact hG c hP _ _ (fun d hd hl => st (μ c) (μ d + 1) d hd hl (by omega))
theorem gAny_s (m : Nat) (P : Nat → Bool) : gAny (m + 1) P = (gAny m P || P m) := by
  unfold gAny
  rw [List.range_succ, List.any_append]
  simp
theorem gAny_0 (P : Nat → Bool) : gAny 0 P = false := rfl
def gLb (f : Nat → Nat → Int32) (b a : Nat) : Bool := decide (f 9 a < f 9 b) || (decide (f 9 a = f 9 b) && decide (a < b))
theorem gLb_iff {f : Nat → Nat → Int32} {b a : Nat} : gLb f b a = true ↔ gLat f b a := by
  unfold gLb gLat
  simp
def gMu (f : Nat → Nat → Int32) (c : Nat) : Nat := (f 9 c).toNatClampNeg * 32 + c
theorem lat_mu {f : Nat → Nat → Int32} {td nc nk a b : Nat} (hk : IVk f td nc nk) (htd : td ≤ 9999) (ha : a < nk) (hb : b < nk) : gLat f b a ↔ gMu f a < gMu f b := by
  have hnk := hk.2.2.1
  obtain ⟨x, hx, ex⟩ := gib_ex (hk.2.2.2.1 a ha).2.2.2.2.2.2.1 (by omega)
  obtain ⟨y, hy, ey⟩ := gib_ex (hk.2.2.2.1 b hb).2.2.2.2.2.2.1 (by omega)
  unfold gLat gMu
  rw [ex, ey, nI_ltI (by omega) (by omega), nI_eq (by omega) (by omega), nI_clamp (by omega), nI_clamp (by omega)]
  omega
theorem mu_inj {f : Nat → Nat → Int32} {a b : Nat} (ha : a < 32) (hb : b < 32) (h : gMu f a = gMu f b) : a = b := by unfold gMu at h; omega
theorem oi_lt {f : Nat → Nat → Int32} {td nc nk a : Nat} (hk : IVk f td nc nk) (ha : a < nk) : gOi f a < nk := (gib_all (hk.2.2.2.2.1 a ha) (by have := hk.2.2.1; omega)).1
theorem oi_eq {f : Nat → Nat → Int32} {td nc nk a : Nat} (hk : IVk f td nc nk) (ha : a < nk) : f 13 a = nI (gOi f a) := (gib_all (hk.2.2.2.2.1 a ha) (by have := hk.2.2.1; omega)).2
theorem oi_lat {f : Nat → Nat → Int32} {td nc nk a b : Nat} (hk : IVk f td nc nk) (htd : td ≤ 9999) (ha : a < nk) (hb : b < nk) : gLat f (gOi f b) (gOi f a) ↔ a < b := by
  constructor
  · intro h
    rcases Nat.lt_or_ge a b with q | q
    · exact q
    · exfalso
      have h1 := (lat_mu hk htd (oi_lt hk ha) (oi_lt hk hb)).mp h
      rcases Nat.lt_or_ge b a with q2 | q2
      · have h2 := (lat_mu hk htd (oi_lt hk hb) (oi_lt hk ha)).mp (hk.2.2.2.2.2 b a q2 ha)
        omega
      · have : a = b := by omega
        subst this
        omega
  · intro h; exact hk.2.2.2.2.2 a b h hb
theorem oi_inj {f : Nat → Nat → Int32} {td nc nk a b : Nat} (hk : IVk f td nc nk) (htd : td ≤ 9999) (ha : a < nk) (hb : b < nk) (h : gOi f a = gOi f b) : a = b := by
  rcases Nat.lt_or_ge a b with q | q
  · have := (lat_mu hk htd (oi_lt hk ha) (oi_lt hk hb)).mp ((oi_lat hk htd ha hb).mpr q)
    rw [h] at this; omega
  · rcases Nat.lt_or_ge b a with q2 | q2
    · have := (lat_mu hk htd (oi_lt hk hb) (oi_lt hk ha)).mp ((oi_lat hk htd hb ha).mpr q2)
      rw [h] at this; omega
    · omega
theorem oi_on {f : Nat → Nat → Int32} {td nc nk d : Nat} (hk : IVk f td nc nk) (htd : td ≤ 9999) (hd : d < nk) : ∃ a, a < nk ∧ gOi f a = d :=
  fb_onto (fun _ hi => oi_lt hk hi) (fun i j hij hj e => by have := oi_inj hk htd (by omega) hj e; omega) hd
/-- all that is told, and what counts of it -/
def CT : Type := (Nat → Nat → Int32) × (Nat → Bool) × (Nat → Nat) × (Nat → Bool) × (Nat) × (Nat) × (Nat) × (Nat) × (Nat) × (Nat) × ((Nat → Int64) → Bool) × ((Nat → Int64) → Bool) × (Nat)
def CT.f (X : CT) : Nat → Nat → Int32 := X.1
def CT.cn (X : CT) : Nat → Bool := X.2.1
def CT.ld (X : CT) : Nat → Nat := X.2.2.1
def CT.sn (X : CT) : Nat → Bool := X.2.2.2.1
def CT.td (X : CT) : Nat := X.2.2.2.2.1
def CT.nc (X : CT) : Nat := X.2.2.2.2.2.1
def CT.np (X : CT) : Nat := X.2.2.2.2.2.2.1
def CT.nk (X : CT) : Nat := X.2.2.2.2.2.2.2.1
def CT.nn (X : CT) : Nat := X.2.2.2.2.2.2.2.2.1
def CT.r (X : CT) : Nat := X.2.2.2.2.2.2.2.2.2.1
def CT.t0 (X : CT) : (Nat → Int64) → Bool := X.2.2.2.2.2.2.2.2.2.2.1
def CT.t1 (X : CT) : (Nat → Int64) → Bool := X.2.2.2.2.2.2.2.2.2.2.2.1
def CT.en (X : CT) : Nat := X.2.2.2.2.2.2.2.2.2.2.2.2
def CT.un (X : CT) (c d : Nat) : Bool := gAny X.nn (fun n => X.cn n && decide (X.f 15 n = 4) && decide ((X.f 18 n).toNatClampNeg = c) && decide ((X.f 17 n).toNatClampNeg = d))
def CT.ag (X : CT) (p q : Nat) : Bool := gAny X.np (fun a => gAny X.np (fun b => bt (X.f 6 a) b && !decide (X.ld a = X.ld b) && decide (X.ld a = p) && decide (X.ld b = q)))
def CT.sp (X : CT) (p c : Nat) : Bool := gAny X.nn (fun n => gOpc X.f X.cn c n && decide (X.ld (X.f 19 n).toNatClampNeg = p))
def CT.ok (X : CT) : Prop := (DBx X.f X.td X.nc X.np X.nk X.nn) ∧ (∀ c, X.sn c = true → c < X.nk) ∧ (∀ n, n < X.nn → X.cn n = true → X.f 15 n ≤ 4 → X.sn (X.f 17 n).toNatClampNeg = true) ∧ (∀ n, n < X.nn → X.cn n = true → 1 < X.f 15 n → X.f 15 n ≤ 4 → X.sn (X.f 18 n).toNatClampNeg = true) ∧ (∀ p, p < X.np → X.ld p < X.np) ∧ (∀ p, p < X.np → X.ld (X.ld p) = X.ld p)
theorem CT.ok.D {X : CT} (h : X.ok) : DBx X.f X.td X.nc X.np X.nk X.nn := h.1
theorem CT.ok.sn_lt {X : CT} (h : X.ok) : ∀ c, X.sn c = true → c < X.nk := h.2.1
theorem CT.ok.op {X : CT} (h : X.ok) : ∀ n, n < X.nn → X.cn n = true → X.f 15 n ≤ 4 → X.sn (X.f 17 n).toNatClampNeg = true := h.2.2.1
theorem CT.ok.tr {X : CT} (h : X.ok) : ∀ n, n < X.nn → X.cn n = true → 1 < X.f 15 n → X.f 15 n ≤ 4 → X.sn (X.f 18 n).toNatClampNeg = true := h.2.2.2.1
theorem CT.ok.ld_lt {X : CT} (h : X.ok) : ∀ p, p < X.np → X.ld p < X.np := h.2.2.2.2.1
theorem CT.ok.ld_ld {X : CT} (h : X.ok) : ∀ p, p < X.np → X.ld (X.ld p) = X.ld p := h.2.2.2.2.2
noncomputable def CT.u (X : CT) (T : Nat → Bool) (c : Nat) : Bool := T c && Classical.epsilon (fun U : Nat → Bool => ∀ c, (c < 32 ∧ T c = true) → U c = gAny 32 (fun d => T d && !(U d) && X.un c d)) c
noncomputable def CT.wt (X : CT) (T : Nat → Bool) (B : Nat → Nat → Bool) (day : Int32) (p ct : Nat) (F : Int32) (d : Nat) : Nat := if (T d && !(X.u T d)) = true then gWt X.f X.cn X.ld X.nn T (X.u T) X.t0 X.t1 B X.en day d p ct F else 0
def CT.Td (X : CT) (day : Int32) (d : Nat) : Bool := X.sn d && decide (X.f 9 d ≤ day)
def CT.Tc (X : CT) (c d : Nat) : Bool := X.sn d && gLb X.f c d
noncomputable def CT.ms (X : CT) (B : Nat → Nat → Bool) (c q g : Nat) : Bool := decide (2 ≤ X.wt (X.Tc c) B (X.f 9 c) q (X.f 8 c).toNatClampNeg (X.f 11 c) g)
noncomputable def CT.bl (X : CT) (B : Nat → Nat → Bool) (c p : Nat) : Bool := gHe X.f X.cn X.ld X.nn c p (X.f 11 c) && gAny 12 (fun q => X.ag p q && (gLa X.f X.cn X.ld X.nn q (X.f 9 c) || gAny 32 (X.ms B c q)))
noncomputable def CT.bb (X : CT) : Nat → Nat → Bool := Classical.epsilon (fun B : Nat → Nat → Bool => ∀ c, (c < 32 ∧ X.sn c = true) → B c = X.bl B c)
noncomputable def CT.fg (X : CT) (c g : Nat) : Bool := gAny 12 (fun p => gHe X.f X.cn X.ld X.nn c p (X.f 11 c) && gAny 12 (fun q => X.ag p q && X.ms X.bb c q g))
section
variable {X : CT} {T : Nat → Bool}
theorem CT.un_lat (hX : X.ok) {c d : Nat} (h : X.un c d = true) : c < X.nk ∧ d < X.nk ∧ gLat X.f d c ∧ X.sn c = true ∧ X.sn d = true := by
  obtain ⟨n, h1, h2⟩ := gAny_iff.mp h
  simp only [Bool.and_eq_true, decide_eq_true_eq] at h2
  obtain ⟨⟨⟨q1, q2⟩, q3⟩, q4⟩ := h2
  have k1 : (1 : Int32) < X.f 15 n := by rw [q2]; decide
  have k2 : X.f 15 n ≤ 4 := by rw [q2]; decide
  have w := (hX.D.2.2.2.2.2.2.2 n h1).2.2.2.2.2.1 k1 k2
  have s1 := hX.op n h1 q1 k2
  have s2 := hX.tr n h1 q1 k1 k2
  rw [q4] at s1
  rw [q3] at s2
  refine ⟨hX.sn_lt _ s2, hX.sn_lt _ s1, ?_, s2, s1⟩
  have := w.2.2.2.2.1
  rwa [q3, q4] at this
theorem gWt_B {f : Nat → Nat → Int32} {cn : Nat → Bool} {ld : Nat → Nat} {nn : Nat} {T U : Nat → Bool} {t0 t1 : (Nat → Int64) → Bool} {B B' : Nat → Nat → Bool} {en : Nat} {day : Int32} {c p ct : Nat} {F : Int32} (h : B c p = B' c p) : gWt f cn ld nn T U t0 t1 B en day c p ct F = gWt f cn ld nn T U t0 t1 B' en day c p ct F := by
  unfold gWt; rw [h]
theorem CT.wt_B {B B' : Nat → Nat → Bool} {day : Int32} {p ct d : Nat} {F : Int32} (h : T d = true → B d p = B' d p) : X.wt T B day p ct F d = X.wt T B' day p ct F d := by
  unfold CT.wt
  by_cases c : (T d && !(X.u T d)) = true
  · rw [if_pos c, if_pos c]
    exact gWt_B (h (by cases hT : T d <;> simp [hT] at c ⊢))
  · rw [if_neg c, if_neg c]
theorem CT.u_eq (hX : X.ok) (hT : ∀ d, T d = true → d < X.nk) {c : Nat} (hc : T c = true) : X.u T c = gAny 32 (fun d => T d && !(X.u T d) && X.un c d) := by
  have hnk := hX.D.2.2.2.1.2.2.1
  have htd := hX.D.1
  have ex : ∃ U : Nat → Bool, ∀ c, (c < 32 ∧ T c = true) → U c = gAny 32 (fun d => T d && !(U d) && X.un c d) := by
    refine fix_ex false (fun c => c < 32 ∧ T c = true) (fun c => 400000 - gMu X.f c) (fun U c => gAny 32 (fun d => T d && !(U d) && X.un c d)) (fun c hP h h' hh => ?_)
    refine gAny_cong (fun d hd => ?_)
    cases hTd : T d
    · rfl
    · cases hu : X.un c d
      · simp
      · have l := CT.un_lat hX hu
        have m := (lat_mu hX.D.2.2.2.1 htd l.1 l.2.1).mp l.2.2.1
        rw [hh d ⟨hd, hTd⟩ (by
          have b1 : gMu X.f d < 400000 := by
            obtain ⟨x, hx, ex⟩ := gib_ex (hX.D.2.2.2.1.2.2.2.1 d l.2.1).2.2.2.2.2.2.1 (by omega)
            unfold gMu
            rw [ex, nI_clamp (by omega)]
            omega
          omega)]
  have sp := Classical.epsilon_spec ex c ⟨by have := hT c hc; omega, hc⟩
  have e1 : X.u T c = Classical.epsilon (fun U : Nat → Bool => ∀ c, (c < 32 ∧ T c = true) → U c = gAny 32 (fun d => T d && !(U d) && X.un c d)) c := by
    unfold CT.u; rw [hc]; rfl
  rw [e1, sp]
  refine gAny_cong (fun d hd => ?_)
  unfold CT.u
  cases T d <;> simp
theorem CT.u_no {c : Nat} (hc : T c = false) : X.u T c = false := by unfold CT.u; rw [hc]; rfl
theorem CT.Tc_lt (hX : X.ok) {c d : Nat} (h : X.Tc c d = true) : d < X.nk := by
  unfold CT.Tc at h
  simp only [Bool.and_eq_true] at h
  exact hX.sn_lt d h.1
theorem CT.Td_lt (hX : X.ok) {day : Int32} {d : Nat} (h : X.Td day d = true) : d < X.nk := by
  unfold CT.Td at h
  simp only [Bool.and_eq_true] at h
  exact hX.sn_lt d h.1
theorem CT.ms_B (hX : X.ok) {B B' : Nat → Nat → Bool} {c q g : Nat} (h : X.Tc c g = true → B g q = B' g q) : X.ms B c q g = X.ms B' c q g := by
  unfold CT.ms
  rw [CT.wt_B h]
theorem CT.bb_eq (hX : X.ok) {c : Nat} (hc : X.sn c = true) (p : Nat) : X.bb c p = X.bl X.bb c p := by
  have hnk := hX.D.2.2.2.1.2.2.1
  have htd := hX.D.1
  have hcn := hX.sn_lt c hc
  have ex : ∃ B : Nat → Nat → Bool, ∀ c, (c < 32 ∧ X.sn c = true) → B c = X.bl B c := by
    refine fix_ex (fun _ => false) (fun c => c < 32 ∧ X.sn c = true) (fun c => gMu X.f c) (fun B c => X.bl B c) (fun c hP h h' hh => ?_)
    funext p
    unfold CT.bl
    congr 1
    refine gAny_cong (fun q hq => ?_)
    congr 2
    refine gAny_cong (fun g hg => ?_)
    refine CT.ms_B hX (fun hT => ?_)
    have hg2 := CT.Tc_lt hX hT
    unfold CT.Tc at hT
    simp only [Bool.and_eq_true, gLb_iff] at hT
    rw [hh g ⟨by omega, hT.1⟩ ((lat_mu hX.D.2.2.2.1 htd hg2 (hX.sn_lt c hP.2)).mp hT.2)]
  have := Classical.epsilon_spec ex c ⟨by omega, hc⟩
  exact congrFun this p
end
/-- the class's tables of a day, whole -/
def KY (X : CT) (S : GS) : Prop := (∀ c, c < 32 → bt (S.1 36 3) c = X.sn c) ∧ (∀ p, p < 12 → ∀ q, q < 32 → bt (S.1 38 p) q = X.ag p q) ∧ (∀ c, c < 32 → ∀ d, d < 32 → bt (S.1 39 c) d = X.un c d) ∧ (∀ p, p < 12 → ∀ c, c < 32 → bt (S.1 42 p) c = X.sp p c)
def KZ (X : CT) (S : GS) : Prop := CX X.f X.cn X.ld X.np X.nk X.nn X.r S ∧ KY X S
def Lw (S S' : GS) : Prop := (∀ c, c ≠ 35 → c ≠ 48 → c ≠ 49 → S'.1 c = S.1 c) ∧ S'.2.2 = S.2.2
section
variable {X : CT} {T : Nat → Bool} {S S' S1 S2 : GS}
theorem Lw.rf : Lw S S := ⟨fun _ _ _ _ => rfl, rfl⟩
theorem Lw.tr (h : Lw S S1) (h2 : Lw S1 S2) : Lw S S2 := ⟨fun c a b d => (h2.1 c a b d).trans (h.1 c a b d), h2.2.trans h.2⟩
theorem LE.lw (h : LE S S1) : Lw S S1 := ⟨fun c _ _ _ => by rw [h.1], h.2⟩
theorem Fr.lw {C : List Nat} (h : Fr C S S1) (hC : ∀ k, k ∈ C → k = 35 ∨ k = 48 ∨ k = 49) : Lw S S1 := ⟨fun c a b d => h.1 c (fun q => by rcases hC c q with z | z | z <;> contradiction), by rw [h.2]⟩
theorem KZ.lw (h : KZ X S) (e : Lw S S') : KZ X S' := by
  obtain ⟨⟨h1, h2, h3⟩, h4⟩ := h
  have q : ∀ c, c ≤ 30 → S'.1 c = S.1 c := fun c hc => e.1 c (by omega) (by omega) (by omega)
  refine ⟨⟨?_, fun c a b => by rw [q c b]; exact h2 c a b, by rw [e.2]; exact h3⟩, ?_⟩
  · unfold KX at h1 ⊢
    rw [e.1 37 (by decide) (by decide) (by decide), e.1 40 (by decide) (by decide) (by decide), e.1 41 (by decide) (by decide) (by decide), e.1 43 (by decide) (by decide) (by decide), e.1 44 (by decide) (by decide) (by decide), e.1 45 (by decide) (by decide) (by decide), e.1 46 (by decide) (by decide) (by decide), e.1 36 (by decide) (by decide) (by decide)]
    exact ⟨fun c hc => by rw [q c (by omega)]; exact h1.1 c hc, h1.2⟩
  · unfold KY at h4 ⊢
    rw [e.1 36 (by decide) (by decide) (by decide), e.1 38 (by decide) (by decide) (by decide), e.1 39 (by decide) (by decide) (by decide), e.1 42 (by decide) (by decide) (by decide)]
    exact h4
theorem x_goTo (hX : X.ok) (hK : KZ X S) {M day : Int32} (hT : ∀ d, T d = true → d < X.nk) (hM : ∀ d, d < 32 → bt M d = T d) : ∃ S', fX9_goTo S day M = some ((), S') ∧ Fr [35] S S' ∧ TX T (X.u T) day S' := by
  have hnk := hX.D.2.2.2.1.2.2.1
  have htd := hX.D.1
  have hk := hX.D.2.2.2.1
  have k7 : S.1 7 0 = nI X.nk := by rw [hK.1.1.1 7 (by decide)]; exact hk.1
  unfold fX9_goTo
  simp only [glet_s]
  have f3 : Fr [35] S (gsi (gsi (gsi S 35 5 day) 35 6 M) 35 7 0) := ((Fr.rf.put (by simp) _ _).put (by simp) _ _).put (by simp) _ _
  rw [f3.at 7 (by decide), k7]
  obtain ⟨S', a1, a2, a3, a4, a5⟩ := down_loop (fun n S i => fX9_goTo_25 n S i) (fun i S2 => i ≤ X.nk ∧ Fr [35] S S2 ∧ S2.1 35 5 = day ∧ S2.1 35 6 = M ∧ ∀ c, c < 32 → (bt (S2.1 35 7) c = true ↔ ∃ a, i ≤ a ∧ a < X.nk ∧ gOi X.f a = c ∧ X.u T c = true)) (fun S => some ((), S))
    (fun n S2 h => by rw [fX9_goTo_25, if_pos (by decide)])
    (fun n i S2 h => by
      obtain ⟨h0, hf, h5, h6, h7⟩ := h
      have oi := oi_eq hk (show i < X.nk by omega)
      have ol := oi_lt hk (show i < X.nk by omega)
      have e13 : S2.1 13 i = nI (gOi X.f i) := by rw [hf.at 13 (by decide), hK.1.1.1 13 (by decide)]; exact oi
      rw [fX9_goTo_25, if_neg (nI_pos (show i < 2 ^ 31 by omega)), if_pos (gib_nI (show i < 32 by omega) (by decide)), nI_clamp (show i < 2 ^ 31 by omega), e13, glet_s]
      unfold fX9_isThere fX9_alive
      rw [x_has _ (show gOi X.f i < 32 by omega), gbv_s, if_pos (gzb _), gbv_s, h6, hM _ (by omega)]
      simp only [gz_0, m1_eq, glet_s]
      cases hTc : T (gOi X.f i)
      · rw [if_pos rfl]
        refine ⟨S2, rfl, by omega, hf, h5, h6, fun c hc => ?_⟩
        rw [h7 c hc]
        constructor
        · rintro ⟨a, q1, q2⟩; exact ⟨a, by omega, q2⟩
        · rintro ⟨a, q1, q2, q3, q4⟩
          rcases Nat.eq_or_lt_of_le q1 with z | z
          · subst z; rw [q3] at hTc; rw [CT.u_no hTc] at q4; cases q4
          · exact ⟨a, z, q2, q3, q4⟩
      · rw [if_neg (by decide), if_pos (gib_nI (show gOi X.f i < 32 by omega) (by decide)), nI_clamp (show gOi X.f i < 2 ^ 31 by omega), gbv_s, hf.at 39 (by decide)]
        have ue := CT.u_eq hX hT hTc
        have bits : ∀ d, d < 32 → bt (S.1 39 (gOi X.f i) &&& M &&& (S2.1 35 7 ^^^ (-1))) d = (T d && !(X.u T d) && X.un (gOi X.f i) d) := by
          intro d hd
          rw [b_and, b_and, b_xor, b_m1 d hd, hM d hd, hK.2.2.2.1 _ (by omega) d hd]
          cases hTd : T d
          · simp
          · cases hu : X.un (gOi X.f i) d
            · simp
            · have l := CT.un_lat hX hu
              obtain ⟨a, q1, q2⟩ := oi_on hk htd l.2.1
              have hl := l.2.2.1
              rw [← q2] at hl
              have hia := (oi_lat hk htd (show i < X.nk by omega) q1).mp hl
              have : bt (S2.1 35 7) d = X.u T d := bool_iff ((h7 d hd).trans ⟨fun ⟨_, _, _, _, z⟩ => z, fun z => ⟨a, hia, q1, q2, z⟩⟩)
              rw [this]
              simp
        by_cases cz : S.1 39 (gOi X.f i) &&& M &&& (S2.1 35 7 ^^^ (-1)) = 0
        · rw [if_pos cz]
          refine ⟨S2, rfl, by omega, hf, h5, h6, fun c hc => ?_⟩
          rw [h7 c hc]
          constructor
          · rintro ⟨a, q1, q2⟩; exact ⟨a, by omega, q2⟩
          · rintro ⟨a, q1, q2, q3, q4⟩
            rcases Nat.eq_or_lt_of_le q1 with z | z
            · subst z
              exfalso
              rw [← q3, ue] at q4
              obtain ⟨d, d1, d2⟩ := gAny_iff.mp q4
              have := bits d d1
              rw [cz, b_0, d2] at this
              cases this
            · exact ⟨a, z, q2, q3, q4⟩
        · rw [if_neg cz]
          refine ⟨_, rfl, by omega, hf.put (by simp) _ _, by simpa [gsi_r] using h5, by simpa [gsi_r] using h6, fun c hc => ?_⟩
          have e : (gsi S2 35 7 (S2.1 35 7 ||| 1 <<< (nI (gOi X.f i) &&& 31))).1 35 7 = S2.1 35 7 ||| 1 <<< (nI (gOi X.f i) &&& 31) := by simp [gsi_r]
          rw [e, b_put (show gOi X.f i < 32 by omega) hc, h7 c hc]
          have ut : X.u T (gOi X.f i) = true := by
            rw [ue]
            cases hg : gAny 32 (fun d => T d && !(X.u T d) && X.un (gOi X.f i) d)
            · exfalso
              apply cz
              apply b_ext
              intro d hd
              rw [bits d hd, b_0]
              cases hz : (T d && !(X.u T d) && X.un (gOi X.f i) d)
              · rfl
              · rw [gAny_iff.mpr ⟨d, hd, hz⟩] at hg; cases hg
            · rfl
          constructor
          · rintro (⟨a, q1, q2⟩ | q)
            · exact ⟨a, by omega, q2⟩
            · exact ⟨i, Nat.le_refl _, by omega, q.symm, by rw [q]; exact ut⟩
          · rintro ⟨a, q1, q2, q3, q4⟩
            rcases Nat.eq_or_lt_of_le q1 with z | z
            · subst z; exact Or.inr q3.symm
            · exact Or.inl ⟨a, z, q2, q3, q4⟩)
    X.nk _ ⟨Nat.le_refl _, f3, by simp [gsi_r], by simp [gsi_r], fun c hc => by
      have e : (gsi (gsi (gsi S 35 5 day) 35 6 M) 35 7 0).1 35 7 = 0 := by simp [gsi_r]
      rw [e, b_0]
      exact ⟨fun z => (by cases z), fun ⟨a, q1, q2, _⟩ => absurd q1 (by omega)⟩⟩ FU (FU_gt (by omega))
  refine ⟨S', a1, a3, a4, fun c hc => by rw [a5.1]; exact hM c hc, fun c hc => ?_⟩
  apply bool_iff
  rw [a5.2 c hc]
  constructor
  · rintro ⟨_, _, _, _, z⟩; exact z
  · intro z
    have hTc : T c = true := by
      cases h : T c
      · rw [CT.u_no h] at z; cases z
      · rfl
    obtain ⟨a, q1, q2⟩ := oi_on hk htd (hT c hTc)
    exact ⟨a, Nat.zero_le _, q1, q2, z⟩
theorem x_goToDay (hX : X.ok) (hK : KZ X S) {day : Int32} : ∃ S', fX9_goToDay S day = some ((), S') ∧ Fr [35] S S' ∧ TX (X.Td day) (X.u (X.Td day)) day S' := by
  have hnk := hX.D.2.2.2.1.2.2.1
  have hk := hX.D.2.2.2.1
  have k7 : S.1 7 0 = nI X.nk := by rw [hK.1.1.1 7 (by decide)]; exact hk.1
  unfold fX9_goToDay
  simp only [glet_s]
  have key : ∀ q c n M, c + q = X.nk → q < n → (∀ d, d < 32 → bt M d = (decide (d < c) && X.Td day d)) → ∃ S', fX9_goToDay_4 n S day M (nI c) = some ((), S') ∧ Fr [35] S S' ∧ TX (X.Td day) (X.u (X.Td day)) day S' := by
    intro q
    induction q with
    | zero =>
      intro c n M hc hn hM
      obtain ⟨n, rfl⟩ := Nat.exists_eq_add_of_lt hn
      rw [show 0 + n + 1 = n + 1 by omega, fX9_goToDay_4, k7, if_pos (nI_le (by omega) (by omega))]
      obtain ⟨S', b1, b2, b3⟩ := x_goTo (T := X.Td day) (M := M) (day := day) hX hK (fun d h => CT.Td_lt hX h) (fun d hd => by
        rw [hM d hd]
        cases h : X.Td day d
        · simp
        · have := CT.Td_lt hX h
          simp; omega)
      rw [b1, gbd_s]
      exact ⟨S', rfl, b2, b3⟩
    | succ q ih =>
      intro c n M hc hn hM
      obtain ⟨n, rfl⟩ := Nat.exists_eq_add_of_lt hn
      have keep : X.Td day c = false → ∀ d, d < 32 → bt M d = (decide (d < c + 1) && X.Td day d) := by
        intro hz d hd
        rw [hM d hd]
        by_cases e : d = c
        · subst e; simp [hz]
        · have : (d < c + 1) = (d < c) := by apply propext; omega
          simp only [this]
      rw [show q + 1 + n + 1 = (q + 1 + n) + 1 from rfl, fX9_goToDay_4, k7, if_neg (nI_ge (by omega) (by omega)), x_sees (show c < 32 by omega), gbv_s, hK.2.1 c (by omega)]
      simp only [gz_0, glet_s, nI_1]
      cases hs : X.sn c
      · rw [if_pos rfl]
        exact ih (c + 1) _ M (by omega) (by omega) (keep (by simp [CT.Td, hs]))
      · rw [if_neg (by decide), if_pos (gib_nI (show c < 32 by omega) (by decide)), nI_clamp (show c < 2 ^ 31 by omega), hK.1.1.1 9 (by decide)]
        by_cases cd : day < X.f 9 c
        · rw [if_pos cd]
          exact ih (c + 1) _ M (by omega) (by omega) (keep (by simp [CT.Td, (fa_of_lt cd).2.1]))
        · rw [if_neg cd]
          refine ih (c + 1) _ _ (by omega) (by omega) (fun d hd => ?_)
          apply bool_iff
          rw [b_put (show c < 32 by omega) hd, hM d hd]
          by_cases e : d = c
          · subst e; simp [CT.Td, hs, fa_of_nlt cd]
          · have : (d < c + 1) = (d < c) := by apply propext; omega
            simp [this, e]
  exact key X.nk 0 FU 0 (by omega) (FU_gt (by omega)) (fun d hd => by rw [b_0]; simp)
end

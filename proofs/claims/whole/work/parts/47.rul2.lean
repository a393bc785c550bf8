/-! one token of a formula: views of both sides -/
theorem kT2_rng (c d : Nat) : 2 ≤ kT2 c d ∧ kT2 c d ≤ 16 := by
  constructor
  · unfold kT2 kSn
    repeat' split
    all_goals omega
  · unfold kT2 kSn
    repeat' split
    all_goals omega
theorem tok_rng {u : Nat → Nat} {n q : Nat} (h : q ≤ n) : q ≤ kTp u n q ∧ kTp u n q ≤ n ∧ kTp u n q ≤ kTq u n q ∧ kTq u n q ≤ n ∧ (kTt u n q ≠ 1 → kTp u n q < kTq u n q) ∧ 1 ≤ kTt u n q ∧ kTt u n q ≤ 30 ∧ (kTt u n q = 1 → kTp u n q = n) := by
  have h1 : q ≤ kTp u n q := gRn_ge cB u n q
  have h2 : kTp u n q ≤ n := gRn_le h
  unfold kTq kTt
  generalize kTp u n q = p at h1 h2 ⊢
  by_cases hp : p < n
  · simp only [if_pos hp]
    cases hl : cL (u p)
    · cases hd : cD (u p)
      · have hb : kDb (u p) (gNx u n (p + 1)) = true → p + 1 < n := by
          intro z
          unfold gNx at z
          by_cases e : p + 1 < n
          · exact e
          · rw [if_neg e] at z
            simp [kDb] at z
        have ht := kT2_rng (u p) (gNx u n (p + 1))
        cases hz : kDb (u p) (gNx u n (p + 1))
        · simp; omega
        · have := hb hz
          simp; omega
      · have e := gRn_pos hp hd
        have e1 := gRn_ge cD u n (p + 1)
        have e2 : gRn cD u n p ≤ n := gRn_le h2
        simp; omega
    · have e := gRn_pos hp hl
      have e1 := gRn_ge cL u n (p + 1)
      have e2 : gRn cL u n p ≤ n := gRn_le h2
      have ht : 2 ≤ gWk (gWl u p (gRn cL u n p - p)) ∧ gWk (gWl u p (gRn cL u n p - p)) ≤ 30 := by
        rcases gW_rel (gWl u p (gRn cL u n p - p)) with w | w <;> omega
      simp; omega
  · simp only [if_neg hp]
    simp; omega
def VwX (S : GS) (u : Nat → Nat) (n q : Nat) : Prop := TkX S u n (kTq u n q) ∧ S.1 32 3 = nI (kTt u n q) ∧ S.1 32 4 = nI (kTp u n q) ∧ (kTt u n q = 3 → S.1 32 5 = nI (kTn u n q)) ∧ q ≤ n
def VwM (S : GS) (u : Nat → Nat) (n q : Nat) : Prop := TkM S u n (kTq u n q) ∧ S.1 54 16 = gSo (kTt u n q) ∧ S.1 54 15 = nI (kTp u n q) ∧ (3 ≤ kTt u n q → S.1 54 17 = gVl (kTt u n q) (kTn u n q))
section
variable {S S' : GS} {u : Nat → Nat} {n q : Nat}
theorem VwX.of (h : TkX S u n q) : ∃ S', fX8_advance S = some ((), S') ∧ Wr wT S S' ∧ VwX S' u n q := by
  obtain ⟨S', b1, b2, b3, b4, b5, b6⟩ := x_adv h
  refine ⟨S', b1, b2, h.fr (by rw [b2.1]; exact h.1) (b2.2 32 1 rfl) b3 (tok_rng h.2.2.2.1).2.2.2.1 (fun i _ => b2.2 1 i rfl), b4, b5, b6, h.2.2.2.1⟩
theorem VwX.ad (h : VwX S u n q) : ∃ S', fX8_advance S = some ((), S') ∧ Wr wT S S' ∧ VwX S' u n (kTq u n q) := VwX.of h.1
theorem VwM.of (h : TkM S u n q) : ∃ S', fX11_next S = some ((), S') ∧ Wr wN S S' ∧ VwM S' u n q := by
  obtain ⟨S', b1, b2, b3, b4, b5, b6⟩ := m_next h
  exact ⟨S', b1, b2, h.fr (b2.2 54 13 rfl) b3 (tok_rng h.2.2.1).2.2.2.1 (fun i _ => b2.2 55 i rfl), b5, b4, b6⟩
theorem VwM.nx (h : VwM S u n q) : ∃ S', fX11_next S = some ((), S') ∧ Wr wN S S' ∧ VwM S' u n (kTq u n q) := VwM.of h.1
theorem VwX.fr (h : VwX S u n q) (e : S'.2 = S.2) (e32 : ∀ j, S'.1 32 j = S.1 32 j) (e1 : ∀ i, S'.1 1 i = S.1 1 i) : VwX S' u n q := by
  obtain ⟨h1, h2, h3, h4, h5⟩ := h
  exact ⟨h1.fr (by rw [e]; exact h1.1) (e32 1) ((e32 2).trans h1.2.2.1) h1.2.2.2.1 (fun i _ => e1 i), (e32 3).trans h2, (e32 4).trans h3, fun z => (e32 5).trans (h4 z), h5⟩
theorem VwM.fr (h : VwM S u n q) (e : ∀ j, 13 ≤ j → j ≤ 17 → S'.1 54 j = S.1 54 j) (e55 : ∀ i, S'.1 55 i = S.1 55 i) : VwM S' u n q := by
  obtain ⟨h1, h2, h3, h4⟩ := h
  exact ⟨h1.fr (e 13 (by decide) (by decide)) ((e 14 (by decide) (by decide)).trans h1.2.1) h1.2.2.1 (fun i _ => e55 i), (e 16 (by decide) (by decide)).trans h2, (e 15 (by decide) (by decide)).trans h3, fun z => (e 17 (by decide) (by decide)).trans (h4 z)⟩
end
def SF (s f : Nat) : Prop := (s = 21 ∧ (f = 22 ∨ f = 24)) ∨ (s = 26 ∧ (f = 27 ∨ f = 29))
theorem SF.f {s f : Nat} (h : SF s f) : f = 22 ∨ f = 24 ∨ f = 27 ∨ f = 29 := by unfold SF at h; omega
theorem SF.k {s f : Nat} (h : SF s f) : gk s = 7 := by rcases h with ⟨rfl, -⟩ | ⟨rfl, -⟩ <;> rfl
theorem SF.n {s f : Nat} (h : SF s f) : (s = 21 ∨ s = 26) ∧ (f = 22 ∨ f = 24 ∨ f = 27 ∨ f = 29) ∧ s < f := by unfold SF at h; omega
def PX (S : GS) (s f z : Nat) (k : Nat → Nat) (o c m : Nat) (K : Nat → Int32) : Prop := S.2.2 3 = s ∧ S.1 31 0 = 0 ∧ S.1 31 5 = nI z ∧ (∀ i, i < z → S.1 34 i = nI (k i)) ∧ S.1 31 6 = nI o ∧ S.1 s 1 = nI c ∧ S.1 f 1 = nI m ∧ ∀ i, i < m → S.1 (f + 1) i = K i
def MX (S : GS) (w z : Nat) (k : Nat → Nat) (o c m : Nat) (K : Nat → Int32) : Prop := S.1 54 18 = 0 ∧ S.1 54 24 = nI z ∧ (∀ i, i < z → S.1 60 i = gSgP (k i)) ∧ S.1 54 25 = nI o ∧ S.1 54 10 = nI c ∧ S.1 54 22 = nI (2 + w) ∧ S.1 58 (2 + w) = nI m ∧ ∀ i, i < m → gKn (K i) (S.1 56 (64 * (2 + w) + i)) (S.1 57 (64 * (2 + w) + i))
section
variable {S S' : GS} {s f w z o c m : Nat} {k : Nat → Nat} {K : Nat → Int32}
theorem PX.wt (hs : SF s f) (h : PX S s f z k o c m K) (e : Wr wT S S') : PX S' s f z k o c m K := by
  obtain ⟨n1, n2, n3⟩ := hs.n
  obtain ⟨h1, h2, h3, h4, h5, h6, h7, h8⟩ := h
  have no : ∀ a b, a ≠ 32 → S'.1 a b = S.1 a b := fun a b ha => e.2 a b (by simp [wT, ha])
  refine ⟨by rw [e.1]; exact h1, (no _ _ (by decide)).trans h2, (no _ _ (by decide)).trans h3, fun i hi => (no _ _ (by decide)).trans (h4 i hi), (no _ _ (by decide)).trans h5, (no _ _ (by omega)).trans h6, (no _ _ (by omega)).trans h7, fun i hi => (no _ _ (by omega)).trans (h8 i hi)⟩
theorem MX.wn (h : MX S w z k o c m K) (e : Wr wN S S') : MX S' w z k o c m K := by
  obtain ⟨h1, h2, h3, h4, h5, h6, h7, h8⟩ := h
  have no : ∀ a b, a ≠ 54 → S'.1 a b = S.1 a b := fun a b ha => e.2 a b (by simp [wN, ha])
  exact ⟨(e.2 54 18 rfl).trans h1, (e.2 54 24 rfl).trans h2, fun i hi => (no _ _ (by decide)).trans (h3 i hi), (e.2 54 25 rfl).trans h4, (e.2 54 10 rfl).trans h5, (e.2 54 22 rfl).trans h6, (no _ _ (by decide)).trans h7, fun i hi => by rw [no 56 _ (by decide), no 57 _ (by decide)]; exact h8 i hi⟩
end
def wXf (s f k j : Nat) : Bool := (k == 31 && (j == 5 || j == 6)) || (wT k j || (k == 34 || ((k == s && j == 1) || ((k == f && j == 1) || k == f + 1))))
def wMf (w k j : Nat) : Bool := (k == 54 && (j == 10 || (j == 24 || j == 25))) || (wN k j || (k == 60 || (((k == 56 || k == 57) && (decide (64 * (2 + w) ≤ j) && decide (j < 64 * (2 + w) + 64))) || (k == 58 && j == 2 + w))))
/-- with a fault's kind and place -/
def wXF (s f k j : Nat) : Bool := (k == 31 && (j == 0 || j == 1)) || wXf s f k j
def wMF (w k j : Nat) : Bool := (k == 54 && (j == 18 || j == 19)) || wMf w k j
theorem wX_F {s f : Nat} (k j : Nat) (h : wXf s f k j = true) : wXF s f k j = true := by simp [wXF, h]
theorem wM_F {w : Nat} (k j : Nat) (h : wMf w k j = true) : wMF w k j = true := by simp [wMF, h]
theorem wT_f {s f : Nat} (k j : Nat) (h : wT k j = true) : wXf s f k j = true := by simp [wXf, h]
theorem wN_f {w : Nat} (k j : Nat) (h : wN k j = true) : wMf w k j = true := by simp [wMf, h]
theorem wR_f {s f : Nat} (k j : Nat) (h : wRl f k j = true) : wXf s f k j = true := by
  simp [wRl] at h
  simp [wXf]
  omega
theorem wP_f {w : Nat} (k j : Nat) (h : wPr w k j = true) : wMf w k j = true := by
  simp [wPr] at h
  simp [wMf]
  omega
def FL (k p : Nat) (Sx Sm : GS) : Prop := Sx.1 31 0 = nI k ∧ Sx.1 31 1 = nI p ∧ Sm.1 54 18 = nI k ∧ Sm.1 54 19 = nI p ∧ 1 ≤ k ∧ k ≤ 3
def PV (s f w : Nat) (u : Nat → Nat) (n q : Nat) (Sx Sm : GS) (b : Nat) : Prop := ∃ z k o c m K, VwX Sx u n q ∧ VwM Sm u n q ∧ PX Sx s f z k o c m K ∧ MX Sm w z k o c m K ∧ PI z k o c m K b
/-- what comes of one token: a fault of both, or both go on -/
def Out (s f w : Nat) (u : Nat → Nat) (n q : Nat) (Sx Sm Sx' Sm' : GS) (r r' : Int32) : Prop :=
  Wr (wXF s f) Sx Sx' ∧ Wr (wMF w) Sm Sm' ∧ ((∃ k, FL k (kTp u n q) Sx' Sm' ∧ VwX Sx' u n (kTq u n q)) ∨ (kTt u n q ≠ 1 ∧ Wr (wXf s f) Sx Sx' ∧ Wr (wMf w) Sm Sm' ∧ ((r = 1 ∧ r' = 0 ∧ PV s f w u n (kTq u n q) Sx' Sm' 0) ∨ (r = 0 ∧ r' = 1 ∧ PV s f w u n (kTq u n q) Sx' Sm' 1))))
section
variable {S : GS} {s f w z o c m q n : Nat} {u : Nat → Nat} {k : Nat → Nat} {K : Nat → Int32}
theorem x_fail {a : Nat} (h0 : S.1 31 0 = 0) (h : VwX S u n q) (x : Nat) : fX6_fail S (nI x) = some ((), gsi (gsi S 31 0 (nI x)) 31 1 (nI (kTp u n q))) := by
  unfold fX6_fail
  rw [h0, if_pos rfl, glet_s, gsi_n (by omega), h.2.2.1]
  rfl
theorem m_wrong (h0 : S.1 54 18 = 0) (h : VwM S u n q) (x : Nat) : fX11_wrong S (nI x) = some ((), gsi (gsi S 54 18 (nI x)) 54 19 (nI (kTp u n q))) := by
  unfold fX11_wrong
  rw [h0, if_pos rfl, glet_s, gsi_n (by omega), h.2.2.1]
  rfl
theorem x_62 {S1 : GS} {r : Int32} (h1 : fX6_isStillWantedBehind S f = some (r, S1)) (hv : VwX S1 u n q) : ∃ S', Wr wT S1 S' ∧ VwX S' u n (kTq u n q) ∧ ∀ k20 a2 i, fX6_readFormula_62 k20 S f a2 1 (nI i) = k20 S' f a2 r (nI (i + 1)) := by
  obtain ⟨S', b1, b2, b3⟩ := hv.ad
  refine ⟨S', b2, b3, fun k20 a2 i => ?_⟩
  unfold fX6_readFormula_62
  rw [if_neg i10, h1, gbd_s]
  unfold fX6_readFormula_79
  rw [b1, gbd_s, glet_s, nI_1]
theorem x_62s {S1 : GS} {r : Int32} (h1 : fX6_isWantedBehindSign S f = some (r, S1)) (hv : VwX S1 u n q) : ∃ S', Wr wT S1 S' ∧ VwX S' u n (kTq u n q) ∧ ∀ k20 a2 i, fX6_readFormula_62 k20 S f a2 0 (nI i) = k20 S' f a2 r (nI (i + 1)) := by
  obtain ⟨S', b1, b2, b3⟩ := hv.ad
  refine ⟨S', b2, b3, fun k20 a2 i => ?_⟩
  unfold fX6_readFormula_62
  rw [if_pos rfl, h1, gbd_s]
  unfold fX6_readFormula_79
  rw [b1, gbd_s, glet_s, nI_1]
theorem VwX.flt (h : VwX S u n q) (x y : Int32) : VwX (gsi (gsi S 31 0 x) 31 1 y) u n q := h.fr rfl (fun j => by rw [gsi_n (by omega), gsi_n (by omega)]) (fun j => by rw [gsi_n (by omega), gsi_n (by omega)])
theorem x_top (h5 : S.1 31 5 = nI z) (hz : z ≤ 72) (h34 : ∀ i, i < z → S.1 34 i = nI (k i)) : fX6_lastWaiting S = some (nI (if z = 0 then 5 else k (z - 1))) := by
  unfold fX6_lastWaiting
  rw [h5]
  by_cases e : z = 0
  · subst e
    rfl
  · obtain ⟨y, rfl⟩ : ∃ y, z = y + 1 := ⟨z - 1, by omega⟩
    rw [if_neg (nI_nle (by omega) (by omega)), nI_m1, if_pos (gib_nI (by omega) (by decide)), nI_clamp (by omega), h34 y (by omega), if_neg e]
    rfl
theorem x_tie1 (hs : SF s f) (h3 : S.2.2 3 = s) (hc : S.1 s 1 = nI c) (hc2 : c < 64) : fX6_tieKnot S = some (1, gsi S s 1 (nI (c + 1))) := by
  unfold fX6_tieKnot
  rw [h3, if_pos hs.k, hc, if_pos (show nI c < (64 : Int32) from nI_lt (b := 64) hc2 (by decide)), glet_s, nI_1]
theorem x_tie0 (hs : SF s f) (h3 : S.2.2 3 = s) (h0 : S.1 31 0 = 0) (hc : S.1 s 1 = nI 64) (h : VwX S u n q) : fX6_tieKnot S = some (0, gsi (gsi S 31 0 (nI 2)) 31 1 (nI (kTp u n q))) := by
  unfold fX6_tieKnot
  rw [h3, if_pos hs.k, hc, if_neg (show ¬ nI 64 < (64 : Int32) by decide), show (2 : Int32) = nI 2 from rfl, x_fail (a := 0) h0 h 2, gbd_s]
theorem x_await (h5 : S.1 31 5 = nI z) (hz : z < 72) (t : Int32) : fX6_await S t = some ((), gsi (gsi S 34 z t) 31 5 (nI (z + 1))) := by
  unfold fX6_await
  rw [h5, if_neg (show ¬ (72 : Int32) ≤ nI z from nI_ge (b := 72) hz (by decide)), if_pos (gib_nI hz (by decide)), nI_clamp (by omega), glet_s, gsi_n (by omega), h5, glet_s, nI_1]
theorem m_knot1 (hc : S.1 54 10 = nI c) (hc2 : c < 64) : fX11_knot S = some ((), gsi S 54 10 (nI (c + 1))) := by
  unfold fX11_knot
  rw [hc, if_neg (show ¬ nI c = (64 : Int32) from fun e => by have := (nI_eq (b := 64) (by omega) (by decide)).mp e
                                                              omega), glet_s, nI_1]
theorem m_knot0 (h0 : S.1 54 18 = 0) (hc : S.1 54 10 = nI 64) (h : VwM S u n q) : fX11_knot S = some ((), gsi (gsi S 54 18 (nI 2)) 54 19 (nI (kTp u n q))) := by
  unfold fX11_knot
  rw [hc, if_pos (show nI 64 = (64 : Int32) from rfl), show (2 : Int32) = nI 2 from rfl, m_wrong h0 h 2, gbd_s]
end
section
variable {Sx Sm : GS} {s f w z o c m q n : Nat} {u : Nat → Nat} {k : Nat → Nat} {K : Nat → Int32}
theorem op_fault {r r' : Int32} {x : Nat} (hx1 : 1 ≤ x) (hx3 : x ≤ 3) (hvx : VwX Sx u n q) (hx : fX6_isStillWantedBehind Sx f = some (r, gsi (gsi Sx 31 0 (nI x)) 31 1 (nI (kTp u n q)))) (hm : fX11_operand Sm = some (r', gsi (gsi Sm 54 18 (nI x)) 54 19 (nI (kTp u n q)))) :
    ∃ Sx' Sm' r r', (∀ k20 a2 i, fX6_readFormula_62 k20 Sx f a2 1 (nI i) = k20 Sx' f a2 r (nI (i + 1))) ∧ fX11_operand Sm = some (r', Sm') ∧ Out s f w u n q Sx Sm Sx' Sm' r r' := by
  obtain ⟨S', b1, b2, b3⟩ := x_62 hx (hvx.flt _ _)
  refine ⟨S', _, r, r', b3, hm, ?_, (Wr.rf.si (by simp [wMF]) _).si (by simp [wMF]) _, Or.inl ⟨x, ⟨?_, ?_, ?_, gsi_s, hx1, hx3⟩, b2⟩⟩
  · exact ((Wr.rf.si (by simp [wXF]) _).si (by simp [wXF]) _).tr (b1.mo fun k j h => wX_F k j (wT_f k j h))
  · rw [b1.2 31 0 rfl, gsi_n (by omega), gsi_s]
  · rw [b1.2 31 1 rfl, gsi_s]
  · rw [gsi_n (by omega), gsi_s]
theorem op_ok {r r' : Int32} {b z' o' c' m' : Nat} {k' : Nat → Nat} {K' : Nat → Int32} {Sx1 Sm1 : GS} (hs : SF s f) (ht : kTt u n q ≠ 1) (hx : fX6_isStillWantedBehind Sx f = some (r, Sx1)) (hvx : VwX Sx1 u n q) (hpx : PX Sx1 s f z' k' o' c' m' K') (hwx : Wr (wXf s f) Sx Sx1)
    (hm : ∀ S', fX11_next Sm1 = some ((), S') → fX11_operand Sm = some (r', S')) (hvm : VwM Sm1 u n q) (hmx : MX Sm1 w z' k' o' c' m' K') (hwm : Wr (wMf w) Sm Sm1) (hb : (r = 1 ∧ r' = 0 ∧ b = 0) ∨ (r = 0 ∧ r' = 1 ∧ b = 1)) (hp : PI z' k' o' c' m' K' b) :
    ∃ Sx' Sm' r r', (∀ k20 a2 i, fX6_readFormula_62 k20 Sx f a2 1 (nI i) = k20 Sx' f a2 r (nI (i + 1))) ∧ fX11_operand Sm = some (r', Sm') ∧ Out s f w u n q Sx Sm Sx' Sm' r r' := by
  obtain ⟨S', b1, b2, b3⟩ := x_62 hx hvx
  obtain ⟨S2, d1, d2, d3⟩ := hvm.nx
  have w1 := hwx.tr (b1.mo wT_f)
  have w2 := hwm.tr (d2.mo wN_f)
  refine ⟨S', S2, r, r', b3, hm S2 d1, w1.mo wX_F, w2.mo wM_F, Or.inr ⟨ht, w1, w2, ?_⟩⟩
  have pv : PV s f w u n (kTq u n q) S' S2 b := ⟨z', k', o', c', m', K', b2, d3, hpx.wt hs b1, hmx.wn d2, hp⟩
  rcases hb with ⟨e1, e2, rfl⟩ | ⟨e1, e2, rfl⟩
  · exact Or.inl ⟨e1, e2, pv⟩
  · exact Or.inr ⟨e1, e2, pv⟩
end

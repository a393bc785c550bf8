/-! behind an operand: a sign, ')' or the end, on both sides -/
theorem top5 {z o c m : Nat} {k : Nat → Nat} {K : Nat → Int32} (h : PI z k o c m K 1) (ho : 1 ≤ o) : ∃ y, (gRl k 1 z m K).1 = y + 1 ∧ PI y k (o - 1) c (gRl k 1 z m K).2.1 (gRl k 1 z m K).2.2 1 := by
  obtain ⟨r1, r2, r3⟩ := gRl_ok (l := 1) z m K h
  generalize (gRl k 1 z m K).1 = z1 at r1 r2 r3 ⊢
  generalize (gRl k 1 z m K).2.1 = m1 at r1 ⊢
  generalize (gRl k 1 z m K).2.2 = K1 at r1 ⊢
  have z0 : z1 ≠ 0 := by
    intro e
    subst e
    have := r1.2.1
    rw [cn] at this
    omega
  obtain ⟨y, rfl⟩ : ∃ y, z1 = y + 1 := ⟨z1 - 1, by omega⟩
  have r3' : k y = 5 ∨ kSt (k y) < 1 := r3.resolve_left z0
  have h5 : k y = 5 := by
    rcases r3' with q | q
    · exact q
    · rcases r1.1 y (by omega) with p | p
      · exact p
      · have := kSt_pos p.1 p.2
        omega
  exact ⟨y, rfl, (r1.pop5 h5).1⟩
section
variable {S : GS} {s f w z o c m q n l : Nat} {u : Nat → Nat} {k : Nat → Nat} {K : Nat → Int32}
theorem PX.rl (hs : SF s f) (h : PX S s f z k o c m K) (hp : PI z k o c m K 1) (hl : l ≤ 6) : ∃ S', fX6_release S f (nI l) = some ((), S') ∧ Wr (wXf s f) S S' ∧ PX S' s f (gRl k l z m K).1 k o c (gRl k l z m K).2.1 (gRl k l z m K).2.2 ∧ ∀ a b, (a = 32 ∨ a = 1) → S'.1 a b = S.1 a b := by
  obtain ⟨n1, n2, n3⟩ := hs.n
  have nsf : s ≠ f + 1 := by omega
  obtain ⟨h1, h2, h3, h4, h5, h6, h7, h8⟩ := h
  have hc : m + cn isN k z ≤ 64 := by have := hp.2.2.2.1; have := hp.2.2.2.2.1; omega
  obtain ⟨S', r1, r2, r3, r4, r5⟩ := x_rel hs.f hl h3 hp.z72 h4 hp.1 h7 h8 hc
  have r6 := (gRl_ok (l := l) z m K hp).2.1
  have no : ∀ a b, a ≠ f → a ≠ f + 1 → (a ≠ 31 ∨ b ≠ 5) → S'.1 a b = S.1 a b := fun a b q1 q2 q3 => r2.2 a b (by simp [wRl]; omega)
  refine ⟨S', r1, r2.mo wR_f, ⟨by rw [r2.1]; exact h1, ?_, r3, fun i hi => ?_, ?_, ?_, r4, r5⟩, fun a b q => no a b (by omega) (by omega) (by omega)⟩
  · rw [no _ _ (by omega) (by omega) (by omega)]; exact h2
  · rw [no _ _ (by omega) (by omega) (by omega)]; exact h4 i (by omega)
  · rw [no _ _ (by omega) (by omega) (by omega)]; exact h5
  · rw [no _ _ (by omega) (by omega) (by omega)]; exact h6
theorem MX.pr (hw : w < 2) (h : MX S w z k o c m K) (hp : PI z k o c m K 1) (hl : l ≤ 6) (hl1 : 1 ≤ l) : ∃ S', fX11_pour S (nI l) = some ((), S') ∧ Wr (wMf w) S S' ∧ MX S' w (gRl k l z m K).1 k o c (gRl k l z m K).2.1 (gRl k l z m K).2.2 ∧ ∀ a b, (a = 55 ∨ (a = 54 ∧ b ≠ 24)) → S'.1 a b = S.1 a b := by
  obtain ⟨h1, h2, h3, h4, h5, h6, h7, h8⟩ := h
  have hc : m + cn isN k z ≤ 64 := by have := hp.2.2.2.1; have := hp.2.2.2.2.1; omega
  obtain ⟨S', r1, r2, r3, r4, r5⟩ := m_pour hw hl hl1 h2 hp.z72 h3 hp.1 h6 h7 h8 hc
  have r6 := (gRl_ok (l := l) z m K hp).2.1
  have no : ∀ a b, a ≠ 56 → a ≠ 57 → a ≠ 58 → (a ≠ 54 ∨ b ≠ 24) → S'.1 a b = S.1 a b := fun a b q1 q2 q3 q4 => r2.2 a b (by simp [wPr]; omega)
  refine ⟨S', r1, r2.mo wP_f, ⟨?_, r3, fun i hi => ?_, ?_, ?_, ?_, r4, r5⟩, fun a b q => no a b (by omega) (by omega) (by omega) (by omega)⟩
  · rw [no _ _ (by omega) (by omega) (by omega) (by omega)]; exact h1
  · rw [no _ _ (by omega) (by omega) (by omega) (by omega)]; exact h3 i (by omega)
  · rw [no _ _ (by omega) (by omega) (by omega) (by omega)]; exact h4
  · rw [no _ _ (by omega) (by omega) (by omega) (by omega)]; exact h5
  · rw [no _ _ (by omega) (by omega) (by omega) (by omega)]; exact h6
end
/-- a sign between two operands -/
def isBt (t : Nat) : Bool := decide (7 ≤ t ∧ t ≤ 19 ∧ t ≠ 17)
theorem btw_cg {S S' : GS} (e1 : S.1 54 16 = S'.1 54 16) (e2 : S.1 54 17 = S'.1 54 17) : fX11_between S = fX11_between S' := by
  unfold fX11_between
  rw [e1, e2]
  rfl
theorem btw_all : ∀ t, t < 31 → 3 < t → fX11_between (gsi (gsi gS0 54 16 (gSo t)) 54 17 (gVl t 0)) = some (if isBt t = true then gSgP t else 0) := by decide +kernel
theorem sgn_all : ∀ t, t < 31 → 3 < t → ((gSo t = 2 ∧ gVl t 0 = 41) ↔ t = 6) ∧ ((gSo t = 2 ∧ gVl t 0 = 59) ↔ t = 4) := by decide +kernel
theorem kSt_all : ∀ t, t < 31 → isBt t = false → kSt t = 0 ∨ t = 17 := by decide +kernel
section
variable {S : GS} {q n : Nat} {u : Nat → Nat}
theorem m_btw (h : VwM S u n q) (hr : 1 ≤ kTt u n q ∧ kTt u n q ≤ 30) : fX11_between S = some (if isBt (kTt u n q) = true then gSgP (kTt u n q) else 0) := by
  obtain ⟨h1, h2, h3, h4⟩ := h
  by_cases c : 3 < kTt u n q
  · rw [← btw_all _ (by omega) c]
    refine btw_cg ?_ ?_
    · rw [h2, gsi_n (by omega), gsi_s]
    · rw [h4 (by omega), gsi_s, gVl_ne (by omega) _ 0]
  · have e0 : gSo (kTt u n q) ≠ 0 ∧ gSo (kTt u n q) ≠ 2 ∧ isBt (kTt u n q) = false := by
      rcases (show kTt u n q = 1 ∨ kTt u n q = 2 ∨ kTt u n q = 3 by omega) with e | e | e <;> rw [e] <;> decide
    unfold fX11_between
    rw [h2, if_neg e0.1, if_neg e0.2.1, e0.2.2]
    rfl
theorem m_isS {x : Int32} {j : Nat} (h : VwM S u n q) (hr : 1 ≤ kTt u n q ∧ kTt u n q ≤ 30) (hj : 3 < j) (hx : ∀ t, t < 31 → 3 < t → ((gSo t = 2 ∧ gVl t 0 = x) ↔ t = j)) : fX11_isSign S x = some (gz (decide (kTt u n q = j))) := by
  obtain ⟨h1, h2, h3, h4⟩ := h
  unfold fX11_isSign
  by_cases c : 3 < kTt u n q
  · have e := hx _ (by omega) c
    rw [h2, h4 (by omega), gVl_ne (by omega) _ 0]
    by_cases e1 : gSo (kTt u n q) = 2
    · rw [if_pos e1]
      by_cases e2 : gVl (kTt u n q) 0 = x
      · rw [if_pos e2, decide_eq_true (e.mp ⟨e1, e2⟩)]; rfl
      · rw [if_neg e2, decide_eq_false (fun z => e2 (e.mpr z).2)]; rfl
    · rw [if_neg e1, decide_eq_false (fun z => e1 (e.mpr z).1)]; rfl
  · have e0 : gSo (kTt u n q) ≠ 2 := by
      rcases (show kTt u n q = 1 ∨ kTt u n q = 2 ∨ kTt u n q = 3 by omega) with e | e | e <;> rw [e] <;> decide
    rw [h2, if_neg e0, decide_eq_false (by omega)]
    rfl
theorem m_is41 (h : VwM S u n q) (hr : 1 ≤ kTt u n q ∧ kTt u n q ≤ 30) : fX11_isSign S 41 = some (gz (decide (kTt u n q = 6))) := m_isS h hr (by decide) (fun t h1 h2 => (sgn_all t h1 h2).1)
theorem m_is59 (h : VwM S u n q) (hr : 1 ≤ kTt u n q ∧ kTt u n q ≤ 30) : fX11_isSign S 59 = some (gz (decide (kTt u n q = 4))) := m_isS h hr (by decide) (fun t h1 h2 => (sgn_all t h1 h2).2)
end
section
variable {Sx Sm : GS} {s f w z o c m q n : Nat} {u : Nat → Nat} {k : Nat → Nat} {K : Nat → Int32}
theorem sg_fault {r : Int32} {x : Nat} {Sx1 Sm' : GS} {r' : Int32} (hx1 : 1 ≤ x) (hx3 : x ≤ 3) (hvx : VwX Sx1 u n q) (hwx : Wr (wXf s f) Sx Sx1) (hx : fX6_isWantedBehindSign Sx f = some (r, gsi (gsi Sx1 31 0 (nI x)) 31 1 (nI (kTp u n q)))) (hwm : Wr (wMF w) Sm Sm') (h18 : Sm'.1 54 18 = nI x) (h19 : Sm'.1 54 19 = nI (kTp u n q)) :
    ∃ Sx' r, (∀ k20 a2 i, fX6_readFormula_62 k20 Sx f a2 0 (nI i) = k20 Sx' f a2 r (nI (i + 1))) ∧ Out s f w u n q Sx Sm Sx' Sm' r r' := by
  obtain ⟨S', b1, b2, b3⟩ := x_62s hx (hvx.flt _ _)
  refine ⟨S', r, b3, ?_, hwm, Or.inl ⟨x, ⟨?_, ?_, h18, h19, hx1, hx3⟩, b2⟩⟩
  · exact (((hwx.mo wX_F).si (by simp [wXF]) _).si (by simp [wXF]) _).tr (b1.mo fun k j h => wX_F k j (wT_f k j h))
  · rw [b1.2 31 0 rfl, gsi_n (by omega), gsi_s]
  · rw [b1.2 31 1 rfl, gsi_s]
theorem sg_ok {r r' : Int32} {b z' o' c' m' : Nat} {k' : Nat → Nat} {K' : Nat → Int32} {Sx1 Sm1 : GS} (hs : SF s f) (ht : kTt u n q ≠ 1) (hx : fX6_isWantedBehindSign Sx f = some (r, Sx1)) (hvx : VwX Sx1 u n q) (hpx : PX Sx1 s f z' k' o' c' m' K') (hwx : Wr (wXf s f) Sx Sx1)
    (hvm : VwM Sm1 u n q) (hmx : MX Sm1 w z' k' o' c' m' K') (hwm : Wr (wMf w) Sm Sm1) (hb : (r = 1 ∧ r' = 0 ∧ b = 0) ∨ (r = 0 ∧ r' = 1 ∧ b = 1)) (hp : PI z' k' o' c' m' K' b) :
    ∃ Sx' Sm' r, (∀ k20 a2 i, fX6_readFormula_62 k20 Sx f a2 0 (nI i) = k20 Sx' f a2 r (nI (i + 1))) ∧ fX11_next Sm1 = some ((), Sm') ∧ Out s f w u n q Sx Sm Sx' Sm' r r' := by
  obtain ⟨S', b1, b2, b3⟩ := x_62s hx hvx
  obtain ⟨S2, d1, d2, d3⟩ := hvm.nx
  have w1 := hwx.tr (b1.mo wT_f)
  have w2 := hwm.tr (d2.mo wN_f)
  refine ⟨S', S2, r, b3, d1, w1.mo wX_F, w2.mo wM_F, Or.inr ⟨ht, w1, w2, ?_⟩⟩
  have pv : PV s f w u n (kTq u n q) S' S2 b := ⟨z', k', o', c', m', K', b2, d3, hpx.wt hs b1, hmx.wn d2, hp⟩
  rcases hb with ⟨e1, e2, rfl⟩ | ⟨e1, e2, rfl⟩
  · exact Or.inl ⟨e1, e2, pv⟩
  · exact Or.inr ⟨e1, e2, pv⟩
/-- ')' -/
theorem step_cl (hs : SF s f) (hw : w < 2) (hvx : VwX Sx u n q) (hvm : VwM Sm u n q) (hpx : PX Sx s f z k o c m K) (hmx : MX Sm w z k o c m K) (hp : PI z k o c m K 1) (t6 : kTt u n q = 6) (ho : 0 < o) :
    ∃ Sx' Sm' r r', (∀ k20 a2 i, fX6_readFormula_62 k20 Sx f a2 0 (nI i) = k20 Sx' f a2 r (nI (i + 1))) ∧ (∀ N, fX11_expression_14 (N + 1) Sm 1 1 = fX11_expression_14 N Sm' r' 1) ∧ Out s f w u n q Sx Sm Sx' Sm' r r' := by
  have ho8 := hp.2.2.1
  have hz := hp.z72
  have hzz := (gRl_ok (l := 1) z m K hp).2.1
  obtain ⟨y, ey, hpy⟩ := top5 hp ho
  obtain ⟨S1, a1, a2, a3, a4⟩ := PX.rl (l := 0) hs hpx hp (by decide)
  obtain ⟨M1, b1, b2, b3, b4⟩ := MX.pr (l := 1) hw hmx hp (by decide) (by decide)
  rw [gRl_01 z m K hp.1, ey] at a3
  rw [ey] at b3
  obtain ⟨p1, p2, p3, p4, p5, p6, p7, p8⟩ := a3
  obtain ⟨m1, m2, m3, m4, m5, m6, m7, m8⟩ := b3
  obtain ⟨n1, n2, n3⟩ := hs.n
  obtain ⟨o', rfl⟩ : ∃ o', o = o' + 1 := ⟨o - 1, by omega⟩
  have hx : fX6_isWantedBehindSign Sx f = some (0, gsi (gsi S1 31 6 (nI o')) 31 5 (nI y)) := by
    unfold fX6_isWantedBehindSign
    rw [hvx.2.1, t6, glet_s, if_pos (show nI 6 = (6 : Int32) from rfl), hpx.2.2.2.2.1, if_neg (nI_nle (by omega) (by omega)), show (0 : Int32) = nI 0 from rfl, a1, gbd_s, p5, nI_m1, glet_s, gsi_n (by omega), p3, nI_m1, glet_s]
  have r1 : PX (gsi (gsi S1 31 6 (nI o')) 31 5 (nI y)) s f y k o' c (gRl k 1 z m K).2.1 (gRl k 1 z m K).2.2 := by
    refine ⟨p1, ?_, gsi_s, fun i hi => ?_, ?_, ?_, ?_, fun i hi => ?_⟩
    · rw [gsi_n (by omega), gsi_n (by omega)]; exact p2
    · rw [gsi_n (by omega), gsi_n (by omega)]; exact p4 i (by omega)
    · rw [gsi_n (by omega), gsi_s]
    · rw [gsi_n (by omega), gsi_n (by omega)]; exact p6
    · rw [gsi_n (by omega), gsi_n (by omega)]; exact p7
    · rw [gsi_n (by omega), gsi_n (by omega)]; exact p8 i hi
  have r2 : MX (gsi (gsi M1 54 24 (nI y)) 54 25 (nI o')) w y k o' c (gRl k 1 z m K).2.1 (gRl k 1 z m K).2.2 := by
    refine ⟨?_, ?_, fun i hi => ?_, gsi_s, ?_, ?_, ?_, fun i hi => ?_⟩
    · rw [gsi_n (by omega), gsi_n (by omega)]; exact m1
    · rw [gsi_n (by omega), gsi_s]
    · rw [gsi_n (by omega), gsi_n (by omega)]; exact m3 i (by omega)
    · rw [gsi_n (by omega), gsi_n (by omega)]; exact m5
    · rw [gsi_n (by omega), gsi_n (by omega)]; exact m6
    · rw [gsi_n (by omega), gsi_n (by omega)]; exact m7
    · rw [gsi_n (by omega), gsi_n (by omega), gsi_n (by omega), gsi_n (by omega)]; exact m8 i hi
  obtain ⟨Sx', Sm', r, e1, e2, e3⟩ := sg_ok (Sx := Sx) (Sm := Sm) (w := w) (r' := 1) (b := 1) hs (by omega) hx (Wr.vx hvx (a2.1) fun a b h => by rw [gsi_n (by omega), gsi_n (by omega)]; exact a4 a b h) r1 ((a2.si (by simp [wXf]) _).si (by simp [wXf]) _) (Sm1 := gsi (gsi M1 54 24 (nI y)) 54 25 (nI o')) (Wr.vm hvm fun a b h => by rw [gsi_n (by omega), gsi_n (by omega)]; exact b4 a b (by omega)) r2 ((b2.si (by simp [wMf]) _).si (by simp [wMf]) _) (Or.inr ⟨rfl, rfl, rfl⟩) hpy
  refine ⟨Sx', Sm', r, 1, e1, fun N => ?_, e3⟩
  have rng := (tok_rng (u := u) hvx.2.2.2.2).2.2.2.2.2
  rw [fX11_expression_14, if_pos hmx.1, if_neg i10, if_neg i10, m_btw hvm ⟨rng.1, rng.2.1⟩, t6, gbv_s, if_pos (by rfl), m_is41 hvm ⟨rng.1, rng.2.1⟩, t6, gbv_s, if_neg (by decide), hmx.2.2.2.1, if_neg (nI_nle (by omega) (by omega)), show (1 : Int32) = nI 1 from rfl, b1, gbd_s, m2]
  show glet (gsi M1 54 24 (nI (y + 1) - (1 : Int32))) _ = _
  rw [nI_m1, glet_s, gsi_n (by omega), m4]
  show glet (gsi (gsi M1 54 24 (nI y)) 54 25 (nI (o' + 1) - (1 : Int32))) _ = _
  rw [nI_m1, glet_s, e2, gbd_s]
/-- a sign between two -/
theorem step_bt (hs : SF s f) (hw : w < 2) (hvx : VwX Sx u n q) (hvm : VwM Sm u n q) (hpx : PX Sx s f z k o c m K) (hmx : MX Sm w z k o c m K) (hp : PI z k o c m K 1) (hbt : isBt (kTt u n q) = true) :
    ∃ Sx' Sm' r r', (∀ k20 a2 i, fX6_readFormula_62 k20 Sx f a2 0 (nI i) = k20 Sx' f a2 r (nI (i + 1))) ∧ (∀ N, fX11_expression_14 (N + 1) Sm 1 1 = fX11_expression_14 N Sm' r' 1) ∧ Out s f w u n q Sx Sm Sx' Sm' r r' := by
  have rng := (tok_rng (u := u) hvx.2.2.2.2).2.2.2.2.2
  have hz := hp.z72
  obtain ⟨n1, n2, n3⟩ := hs.n
  have hxt := hvx.2.1
  have mex : ∀ Sm', fX11_sign Sm (gSgP (kTt u n q)) = some ((), Sm') → ∀ N, fX11_expression_14 (N + 1) Sm 1 1 = fX11_expression_14 N Sm' 0 1 := by
    intro Sm' h N
    have ne : ¬ gSgP (kTt u n q) = 0 := by
      have : ∀ t, t < 31 → isBt t = true → gSgP t ≠ 0 := by decide +kernel
      exact this _ (by omega) hbt
    rw [fX11_expression_14, if_pos hmx.1, if_neg i10, if_neg i10, m_btw hvm ⟨rng.1, rng.2.1⟩, if_pos hbt, gbv_s, if_neg ne, h, gbd_s, glet_s]
  generalize ht : kTt u n q = t at hxt hbt rng mex
  have hb : 7 ≤ t ∧ t ≤ 19 ∧ t ≠ 17 := by simpa [isBt] using hbt
  have hs1 := kSt_pos hb.1 hb.2.1
  have hs6 := kSt_le t
  obtain ⟨L, hL⟩ : ∃ L, L = if kSt t = 4 then 5 else kSt t := ⟨_, rfl⟩
  have hL1 : 1 ≤ L ∧ L ≤ 6 := by rw [hL]; split <;> omega
  obtain ⟨S1, a1, a2, a3, a4⟩ := PX.rl (l := L) hs hpx hp hL1.2
  obtain ⟨M1, b1, b2, b3, b4⟩ := MX.pr (l := L) hw hmx hp hL1.2 hL1.1
  obtain ⟨g1, g2, g3⟩ := gRl_ok (l := L) z m K hp
  generalize (gRl k L z m K).1 = z1 at a3 b3 g1 g2 g3
  generalize (gRl k L z m K).2.1 = m1 at a3 b3 g1
  generalize (gRl k L z m K).2.2 = K1 at a3 b3 g1
  have hz1 := g1.z72
  have hv1 : VwX S1 u n q := Wr.vx hvx a2.1 a4
  have hm1 : VwM M1 u n q := Wr.vm hvm fun a b h => b4 a b (by omega)
  -- the class, behind release
  have x49 : fX6_isWantedBehindSign Sx f = fX6_isWantedBehindSign_49 Sx f (nI t) := by
    unfold fX6_isWantedBehindSign
    rw [hxt, glet_s, if_neg (show ¬ nI t = (6 : Int32) from fun e => by have := (nI_eq (b := 6) (by omega) (by decide)).mp e; omega)]
  have e9 : fX6_strengthOf Sx (9 : Int32) = some (nI 4) := x_str (t := 9) (by decide)
  have tops : (if z1 = 0 then 5 else k (z1 - 1)) < 31 := by
    by_cases e : z1 = 0
    · rw [if_pos e]; decide
    · rw [if_neg e]; have := g1.1 (z1 - 1) (by omega); omega
  have x128 : fX6_isWantedBehindSign Sx f = if kSt t = 4 ∧ kSt (if z1 = 0 then 5 else k (z1 - 1)) = 4 then gbd (fX6_fail S1 (1 : Int32)) fun r11 S12 => (some ((1 : Int32), S12)) else fX6_isWantedBehindSign_128 S1 (nI t) := by
    rw [x49]
    unfold fX6_isWantedBehindSign_49
    rw [x_str (by omega), gbv_s, if_neg (nI_ne0 (by omega) (by omega)), if_neg (show ¬ nI t = (17 : Int32) from fun e => hb.2.2 ((nI_eq (b := 17) (by omega) (by decide)).mp e)), e9, gbv_s]
    by_cases c4 : kSt t = 4
    · rw [if_pos (by rw [c4])]
      unfold fX6_isWantedBehindSign_85 fX6_isWantedBehindSign_101
      rw [if_neg i10, c4, nI_1]
      rw [if_pos c4] at hL
      rw [show 4 + 1 = L by omega, a1, gbd_s, if_neg i10, x_top a3.2.2.1 hz1 a3.2.2.2.1, gbv_s, x_str tops, gbv_s]
      have h6 := kSt_le (if z1 = 0 then 5 else k (z1 - 1))
      by_cases c5 : kSt (if z1 = 0 then 5 else k (z1 - 1)) = 4
      · rw [if_pos (by rw [c5]), if_pos ⟨rfl, c5⟩]
      · rw [if_neg (fun e => c5 ((nI_eq (by omega) (by decide)).mp e)), if_neg (fun e => c5 e.2)]
    · rw [if_neg (fun e => c4 ((nI_eq (by omega) (by decide)).mp e))]
      unfold fX6_isWantedBehindSign_85 fX6_isWantedBehindSign_101
      rw [if_neg c4] at hL
      rw [if_pos rfl, ← hL, a1, gbd_s, if_pos rfl, if_neg (fun e => by omega)]
  have m54 : fX11_sign Sm (gSgP t) = if kSt t = 4 ∧ kSt (if z1 = 0 then 5 else k (z1 - 1)) = 4 then gbd (fX11_wrong M1 (1 : Int32)) fun r18 S19 => (fX11_sign_54 S19 (gSgP t)) else fX11_sign_54 M1 (gSgP t) := by
    unfold fX11_sign
    rw [m_bind (by omega) (Or.inr hb.1), gbv_s]
    by_cases c4 : kSt t = 4
    · rw [if_pos (show nI (kSt t) = (4 : Int32) by rw [c4]; rfl)]
      rw [if_pos c4] at hL
      rw [show (5 : Int32) = nI L by rw [hL]; rfl, b1, gbd_s, b3.2.1]
      by_cases e : z1 = 0
      · rw [if_pos (show nI z1 ≤ 0 by rw [e]; decide), if_pos e, if_neg (fun x => absurd x.2 (by decide))]
      · obtain ⟨y, rfl⟩ : ∃ y, z1 = y + 1 := ⟨z1 - 1, by omega⟩
        have hy := g1.1 y (by omega)
        have h6 := kSt_le (k y)
        rw [if_neg (nI_nle (by omega) (by omega)), nI_m1, if_pos (gib_nI (by omega) (by decide)), nI_clamp (by omega), b3.2.2.1 y (by omega), m_bind (by omega) (by omega), gbv_s, if_neg e]
        show _ = if kSt t = 4 ∧ kSt (k y) = 4 then _ else _
        by_cases c5 : kSt (k y) = 4
        · rw [if_pos (show nI (kSt (k y)) = (4 : Int32) by rw [c5]; rfl), if_pos ⟨c4, c5⟩]
        · rw [if_neg (show ¬ nI (kSt (k y)) = (4 : Int32) from fun e => c5 ((nI_eq (b := 4) (by omega) (by decide)).mp e)), if_neg (fun e => c5 e.2)]
    · rw [if_neg (show ¬ nI (kSt t) = (4 : Int32) from fun e => c4 ((nI_eq (b := 4) (by omega) (by decide)).mp e))]
      rw [if_neg c4] at hL
      rw [gbv_s, ← hL, b1, gbd_s, if_neg (fun e => by omega)]
  by_cases bad : kSt t = 4 ∧ kSt (if z1 = 0 then 5 else k (z1 - 1)) = 4
  · rw [if_pos bad] at x128 m54
    rw [show (1 : Int32) = nI 1 from rfl, x_fail (a := 0) a3.2.1 hv1 1, gbd_s] at x128
    have n18 : ¬ (gsi (gsi M1 54 18 (nI 1)) 54 19 (nI (kTp u n q))).1 54 18 = 0 := by rw [gsi_n (by omega), gsi_s]; decide
    rw [show (1 : Int32) = nI 1 from rfl, m_wrong b3.1 hm1 1, gbd_s] at m54
    unfold fX11_sign_54 fX11_sign_65 at m54
    rw [if_neg n18, if_neg n18] at m54
    obtain ⟨Sx', r, e1, e2⟩ := sg_fault (Sx := Sx) (Sm := Sm) (s := s) (f := f) (w := w) (q := q) (n := n) (u := u) (x := 1) (r' := 0) (by decide) (by decide) hv1 a2 x128 (((b2.mo wM_F).si (k := 54) (j := 18) (by simp [wMF]) (nI 1)).si (k := 54) (j := 19) (by simp [wMF]) (nI (kTp u n q))) (by rw [gsi_n (by omega), gsi_s]) gsi_s
    exact ⟨Sx', _, r, 0, e1, mex _ m54, e2⟩
  · rw [if_neg bad] at x128 m54
    unfold fX6_isWantedBehindSign_128 at x128
    unfold fX11_sign_54 at m54
    rw [if_pos b3.1] at m54
    by_cases hc : c < 64
    · obtain ⟨hp1, hz2⟩ := g1.pushB (t := t) hc hb.1 hb.2.1 hb.2.2
      obtain ⟨x1, x2⟩ := xo_psh (S := S1) (S1 := gsi S1 s 1 (nI (c + 1))) (o' := o) (c' := c + 1) hs hz2 rfl (fun a b h1 h2 => gsi_n (by omega)) a3 (by rw [gsi_n (by omega)]; exact a3.2.2.2.2.1) gsi_s (Wr.rf.si (by simp [wXf]) _) t
      obtain ⟨y1, y2⟩ := mo_psh (S := M1) (S1 := gsi M1 54 10 (nI (c + 1))) (o' := o) (c' := c + 1) (fun a b h1 => gsi_n (by omega)) b3 (by rw [gsi_n (by omega)]; exact b3.2.2.2.1) gsi_s (Wr.rf.si (by simp [wMf]) _) t
      rw [x_tie1 hs a3.1 a3.2.2.2.2.2.1 hc, gbd_s, if_neg i10, x_await (by rw [gsi_n (by omega)]; exact a3.2.2.1) hz2, gbd_s] at x128
      obtain ⟨Sx', Sm', r, e1, e2, e3⟩ := sg_ok (Sx := Sx) (Sm := Sm) (w := w) (r' := 0) (b := 0) hs (by omega) x128 (Wr.vx hv1 rfl fun a b h => by rw [gsi_n (by omega), gsi_n (by omega), gsi_n (by omega)]) x1 (a2.tr x2) (Wr.vm hm1 fun a b h => by rw [gsi_n (by omega), gsi_n (by omega), gsi_n (by omega)]) y1 (b2.tr y2) (Or.inl ⟨rfl, rfl, rfl⟩) hp1
      refine ⟨Sx', Sm', r, 0, e1, mex _ ?_, e3⟩
      rw [m54, m_knot1 b3.2.2.2.2.1 hc, gbd_s]
      unfold fX11_sign_65
      rw [gsi_n (by omega), if_pos b3.1, m_waits (by rw [gsi_n (by omega)]; exact b3.2.1) (by omega) e2, gbd_s]
    · have hc4 : c = 64 := by have := hp.2.2.2.2.1; omega
      rw [x_tie0 hs a3.1 a3.2.1 (by rw [a3.2.2.2.2.2.1, hc4]) hv1, gbd_s, if_pos rfl] at x128
      rw [m_knot0 b3.1 (by rw [b3.2.2.2.2.1, hc4]) hm1, gbd_s] at m54
      unfold fX11_sign_65 at m54
      rw [if_neg (by rw [gsi_n (by omega), gsi_s]; decide)] at m54
      obtain ⟨Sx', r, e1, e2⟩ := sg_fault (Sx := Sx) (Sm := Sm) (s := s) (f := f) (w := w) (q := q) (n := n) (u := u) (x := 2) (r' := 0) (by decide) (by decide) hv1 a2 x128 (((b2.mo wM_F).si (k := 54) (j := 18) (by simp [wMF]) (nI 2)).si (k := 54) (j := 19) (by simp [wMF]) (nI (kTp u n q))) (by rw [gsi_n (by omega), gsi_s]) gsi_s
      exact ⟨Sx', _, r, 0, e1, mex _ m54, e2⟩
end

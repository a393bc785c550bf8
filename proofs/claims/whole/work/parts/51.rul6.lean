/-! the loop of a formula, on both sides -/
theorem top0 {z c m : Nat} {k : Nat → Nat} {K : Nat → Int32} (h : PI z k 0 c m K 1) : (gRl k 1 z m K).1 = 0 ∧ PI 0 k 0 c (gRl k 1 z m K).2.1 (gRl k 1 z m K).2.2 1 := by
  obtain ⟨r1, r2, r3⟩ := gRl_ok (l := 1) z m K h
  generalize (gRl k 1 z m K).1 = z1 at r1 r2 r3 ⊢
  generalize (gRl k 1 z m K).2.1 = m1 at r1 ⊢
  generalize (gRl k 1 z m K).2.2 = K1 at r1 ⊢
  have z0 : z1 = 0 := by
    refine Decidable.byContradiction fun e => ?_
    obtain ⟨y, rfl⟩ : ∃ y, z1 = y + 1 := ⟨z1 - 1, by omega⟩
    have r3' : k y = 5 ∨ kSt (k y) < 1 := r3.resolve_left e
    rcases r3' with p | p
    · have := cn5_pos (k := k) (z := y) p
      have := r1.2.1
      omega
    · rcases r1.1 y (by omega) with p2 | p2
      · have := cn5_pos (k := k) (z := y) p2
        have := r1.2.1
        omega
      · have := kSt_pos p2.1 p2.2
        omega
  subst z0
  exact ⟨rfl, r1⟩
def FOk (s f w : Nat) (u : Nat → Nat) (n q0 : Nat) (Sx' Sm' : GS) : Prop := ∃ q c m, q0 ≤ q ∧ kTt u n q = 4 ∧ VwX Sx' u n q ∧ VwM Sm' u n q ∧ Sx'.2.2 3 = s ∧ Sx'.1 31 0 = 0 ∧ Sm'.1 54 18 = 0 ∧ Sx'.1 s 1 = nI c ∧ Sm'.1 54 10 = nI c ∧ c ≤ 64 ∧ m ≤ 64 ∧ Sx'.1 f 1 = nI m ∧ Sm'.1 58 (2 + w) = nI m ∧ (∀ i, i < m → gKn (Sx'.1 (f + 1) i) (Sm'.1 56 (64 * (2 + w) + i)) (Sm'.1 57 (64 * (2 + w) + i))) ∧ gHt2 (Sx'.1 (f + 1)) m = some 1
/-- how a formula ends: both with a fault; the class with one that the reference finds next; both well -/
def FEnd (s f w : Nat) (u : Nat → Nat) (n q0 : Nat) (Sx Sm Sx' Sm' : GS) : Prop :=
  Wr (wXF s f) Sx Sx' ∧ Wr (wMF w) Sm Sm' ∧
  ((∃ k p q, FL k p Sx' Sm' ∧ VwX Sx' u n q) ∨
   (∃ q q', Sx'.1 31 0 = nI 1 ∧ Sx'.1 31 1 = nI (kTp u n q) ∧ VwX Sx' u n q' ∧ Sm'.1 54 18 = 0 ∧ VwM Sm' u n q ∧ kTt u n q ≠ 4 ∧ q ≤ n) ∨
   (Wr (wXf s f) Sx Sx' ∧ Wr (wMf w) Sm Sm' ∧ FOk s f w u n q0 Sx' Sm'))
theorem FEnd.tr {s f w : Nat} {u : Nat → Nat} {n q0 q1 : Nat} {Sx Sm Sx1 Sm1 Sx' Sm' : GS} (hx : Wr (wXf s f) Sx Sx1) (hm : Wr (wMf w) Sm Sm1) (hq : q0 ≤ q1) (h : FEnd s f w u n q1 Sx1 Sm1 Sx' Sm') : FEnd s f w u n q0 Sx Sm Sx' Sm' := by
  obtain ⟨h1, h2, h3⟩ := h
  refine ⟨(hx.mo wX_F).tr h1, (hm.mo wM_F).tr h2, ?_⟩
  rcases h3 with h | h | ⟨h4, h5, q, c, m, h6, h7⟩
  · exact Or.inl h
  · exact Or.inr (Or.inl h)
  · exact Or.inr (Or.inr ⟨hx.tr h4, hm.tr h5, q, c, m, by omega, h7⟩)
section
variable {Sx Sm : GS} {s f w z o c m q n : Nat} {u : Nat → Nat} {k : Nat → Nat} {K : Nat → Int32}
/-- what can't stand behind an operand -/
theorem step_bad (hs : SF s f) (hw : w < 2) (hvx : VwX Sx u n q) (hvm : VwM Sm u n q) (hpx : PX Sx s f z k o c m K) (hmx : MX Sm w z k o c m K) (hp : PI z k o c m K 1) (hbt : isBt (kTt u n q) = false) (h6 : ¬ (kTt u n q = 6 ∧ 0 < o)) (h4 : ¬ (kTt u n q = 4 ∧ o = 0)) :
    ∃ Sx' Sm' r, (∀ k20 a2 i, fX6_readFormula_62 k20 Sx f a2 0 (nI i) = k20 Sx' f a2 r (nI (i + 1))) ∧ ¬ Sx'.1 31 0 = 0 ∧ (∀ N, fX11_expression_14 (N + 2) Sm 1 1 = some ((), Sm')) ∧ FEnd s f w u n q Sx Sm Sx' Sm' := by
  have rng := (tok_rng (u := u) hvx.2.2.2.2).2.2.2.2.2
  have rng1 : 1 ≤ kTt u n q ∧ kTt u n q ≤ 30 := ⟨rng.1, rng.2.1⟩
  have hxt := hvx.2.1
  have x64 : fX6_isWantedBehindSign_64 Sx = some (1, gsi (gsi Sx 31 0 (nI 1)) 31 1 (nI (kTp u n q))) := by
    unfold fX6_isWantedBehindSign_64
    rw [show (1 : Int32) = nI 1 from rfl, x_fail (a := 0) hpx.2.1 hvx 1, gbd_s]
  have x49 : fX6_isWantedBehindSign Sx f = fX6_isWantedBehindSign_49 Sx f (nI (kTt u n q)) := by
    unfold fX6_isWantedBehindSign
    rw [hxt, glet_s]
    by_cases e : kTt u n q = 6
    · have : o = 0 := by omega
      rw [if_pos (show nI (kTt u n q) = (6 : Int32) by rw [e]; rfl), hpx.2.2.2.2.1, this, if_pos (show nI 0 ≤ 0 by decide)]
    · rw [if_neg (show ¬ nI (kTt u n q) = (6 : Int32) from fun y => e ((nI_eq (b := 6) (by omega) (by decide)).mp y))]
  have hx : fX6_isWantedBehindSign Sx f = some (1, gsi (gsi Sx 31 0 (nI 1)) 31 1 (nI (kTp u n q))) := by
    rw [x49]
    unfold fX6_isWantedBehindSign_49
    have l6 := kSt_le (kTt u n q)
    rw [x_str (by omega), gbv_s]
    by_cases e0 : kSt (kTt u n q) = 0
    · rw [if_pos (show nI (kSt (kTt u n q)) = 0 by rw [e0]; rfl), x64]
    · have e17 : kTt u n q = 17 := (kSt_all _ (by omega) hbt).resolve_left e0
      rw [if_neg (nI_ne0 (by omega) (by omega)), if_pos (show nI (kTt u n q) = (17 : Int32) by rw [e17]; rfl), x64]
  have he : ∀ N, fX11_expression_14 (N + 2) Sm 1 1 = fX11_expression_109 Sm := by
    intro N
    have e2 : fX11_expression_14 (N + 1) Sm 1 0 = fX11_expression_109 Sm := by rw [fX11_expression_14, if_pos hmx.1, if_pos rfl]
    rw [fX11_expression_14, if_pos hmx.1, if_neg i10, if_neg i10, m_btw hvm rng1, hbt, gbv_s, if_neg (show ¬ (false = true) by decide), if_pos rfl, m_is41 hvm rng1, gbv_s]
    by_cases e : kTt u n q = 6
    · have : o = 0 := by omega
      rw [decide_eq_true e, if_neg (show ¬ gz true = 0 by decide), hmx.2.2.2.1, this, if_pos (show nI 0 ≤ 0 by decide), glet_s, e2]
    · rw [decide_eq_false e, if_pos (show gz false = 0 by decide), glet_s, e2]
  obtain ⟨S', b1, b2, b3⟩ := x_62s hx (hvx.flt _ _)
  have wx : Wr (wXF s f) Sx S' := ((Wr.rf.si (by simp [wXF]) _).si (by simp [wXF]) _).tr (b1.mo fun k j h => wX_F k j (wT_f k j h))
  have f0 : S'.1 31 0 = nI 1 := by rw [b1.2 31 0 rfl, gsi_n (by omega), gsi_s]
  have f1 : S'.1 31 1 = nI (kTp u n q) := by rw [b1.2 31 1 rfl, gsi_s]
  have fn : ¬ S'.1 31 0 = 0 := by rw [f0]; decide
  by_cases ho : o = 0
  · obtain ⟨M1, d1, d2, d3, d4⟩ := MX.pr (l := 1) hw hmx hp (by decide) (by decide)
    refine ⟨S', M1, 1, b3, fn, fun N => ?_, wx, d2.mo wM_F, Or.inr (Or.inl ⟨q, _, f0, f1, b2, d3.1, Wr.vm hvm fun a b h => d4 a b (by omega), fun e => h4 ⟨e, ho⟩, hvx.2.2.2.2⟩)⟩
    rw [he N]
    unfold fX11_expression_109 fX11_expression_129
    rw [if_pos hmx.1, hmx.2.2.2.1, ho, if_pos (show nI 0 ≤ 0 by decide), if_pos hmx.1, show (1 : Int32) = nI 1 from rfl, d1, gbd_s]
  · have ho8 := hp.2.2.1
    refine ⟨S', gsi (gsi Sm 54 18 (nI 1)) 54 19 (nI (kTp u n q)), 1, b3, fn, fun N => ?_, wx, (Wr.rf.si (by simp [wMF]) _).si (by simp [wMF]) _, Or.inl ⟨1, _, _, ⟨f0, f1, by rw [gsi_n (by omega), gsi_s], gsi_s, by decide, by decide⟩, b2⟩⟩
    rw [he N]
    unfold fX11_expression_109 fX11_expression_129
    rw [if_pos hmx.1, hmx.2.2.2.1, if_neg (nI_nle (by omega) (by omega)), show (1 : Int32) = nI 1 from rfl, m_wrong hmx.1 hvm 1, gbd_s, if_neg (by rw [gsi_n (by omega), gsi_s]; decide)]
/-- the end of a formula -/
theorem step_end (hs : SF s f) (hw : w < 2) (hvx : VwX Sx u n q) (hvm : VwM Sm u n q) (hpx : PX Sx s f z k 0 c m K) (hmx : MX Sm w z k 0 c m K) (hp : PI z k 0 c m K 1) (h4 : kTt u n q = 4) :
    ∃ Sx' Sm', (∀ N i, i ≤ n → fX6_readFormula_20 (N + 1) Sx f (nI n) 0 (nI i) = some ((), Sx')) ∧ (∀ N, fX11_expression_14 (N + 2) Sm 1 1 = some ((), Sm')) ∧ FEnd s f w u n q Sx Sm Sx' Sm' := by
  have rng := (tok_rng (u := u) hvx.2.2.2.2).2.2.2.2.2
  have rng1 : 1 ≤ kTt u n q ∧ kTt u n q ≤ 30 := ⟨rng.1, rng.2.1⟩
  have hn := hvx.1.2.2.2.2.1
  obtain ⟨t1, t2⟩ := top0 hp
  obtain ⟨S1, a1, a2, a3, a4⟩ := PX.rl (l := 0) hs hpx hp (by decide)
  obtain ⟨M1, b1, b2, b3, b4⟩ := MX.pr (l := 1) hw hmx hp (by decide) (by decide)
  rw [gRl_01 z m K hp.1, t1] at a3
  rw [t1] at b3
  generalize (gRl k 1 z m K).2.1 = m1 at a3 b3 t2
  generalize (gRl k 1 z m K).2.2 = K1 at a3 b3 t2
  obtain ⟨p1, p2, p3, p4, p5, p6, p7, p8⟩ := a3
  obtain ⟨q1, q2, q3, q4, q5, q6, q7, q8⟩ := b3
  obtain ⟨i1, i2, i3, i4, i5, i6⟩ := t2
  have hm1 : m1 ≤ 64 := by rw [cn] at i4; omega
  refine ⟨S1, M1, fun N i hi => ?_, fun N => ?_, a2.mo wX_F, b2.mo wM_F, Or.inr (Or.inr ⟨a2, b2, q, c, m1, Nat.le_refl _, h4, Wr.vx hvx a2.1 a4, Wr.vm hvm fun a b h => b4 a b (by omega), p1, p2, q1, p6, q5, i5, hm1, p7, q7, fun i hi => ?_, ?_⟩)⟩
  · rw [fX6_readFormula_20, if_neg (nI_nlt hi (by omega)), if_pos hpx.2.1, if_pos rfl, hpx.2.2.2.2.1, if_pos (show nI 0 = 0 from rfl), hvx.2.1, h4, if_pos (show nI 4 = (4 : Int32) from rfl), show (0 : Int32) = nI 0 from rfl, a1, gbd_s]
  · have e2 : fX11_expression_14 (N + 1) Sm 1 0 = fX11_expression_109 Sm := by rw [fX11_expression_14, if_pos hmx.1, if_pos rfl]
    rw [fX11_expression_14, if_pos hmx.1, if_neg i10, if_neg i10, m_btw hvm rng1, h4, gbv_s, if_pos (by rfl), m_is41 hvm rng1, h4, gbv_s, if_pos (by decide), glet_s, e2]
    unfold fX11_expression_109 fX11_expression_129
    rw [if_pos hmx.1, hmx.2.2.2.1, if_pos (show nI 0 ≤ 0 by decide), if_pos hmx.1, show (1 : Int32) = nI 1 from rfl, b1, gbd_s]
  · rw [p8 i hi]; exact q8 i hi
  · rw [gHt2_cg m1 p8, i6, cn]
theorem form_loop (hs : SF s f) (hw : w < 2) : ∀ d q i Sx Sm (r r' : Int32) b, n - q < d → i ≤ q → ((r = 1 ∧ r' = 0 ∧ b = 0) ∨ (r = 0 ∧ r' = 1 ∧ b = 1)) → PV s f w u n q Sx Sm b → ∃ Sx' Sm', (∀ N, d + 1 ≤ N → fX6_readFormula_20 N Sx f (nI n) r (nI i) = some ((), Sx')) ∧ (∀ N, d + 2 ≤ N → fX11_expression_14 N Sm r' 1 = some ((), Sm')) ∧ FEnd s f w u n q Sx Sm Sx' Sm'
  | 0, _, _, _, _, _, _, _, h, _, _, _ => absurd h (Nat.not_lt_zero _)
  | d + 1, q, i, Sx, Sm, r, r', b, hd, hi, hb, hP => by
    obtain ⟨z, k, o, c, m, K, hvx, hvm, hpx, hmx, hp⟩ := hP
    have hqn := hvx.2.2.2.2
    have hn := hvx.1.2.2.2.2.1
    have rng := tok_rng (u := u) hqn
    have go : ∀ Sx1 Sm1 r1 r1', Out s f w u n q Sx Sm Sx1 Sm1 r1 r1' → ∃ Sx' Sm', (∀ N, d + 1 ≤ N → fX6_readFormula_20 N Sx1 f (nI n) r1 (nI (i + 1)) = some ((), Sx')) ∧ (∀ N, d + 2 ≤ N → fX11_expression_14 N Sm1 r1' 1 = some ((), Sm')) ∧ FEnd s f w u n q Sx Sm Sx' Sm' := by
      intro Sx1 Sm1 r1 r1' ⟨o1, o2, o3⟩
      rcases o3 with ⟨x, hF, hV⟩ | ⟨h1, w1, w2, h2⟩
      · refine ⟨Sx1, Sm1, fun N hN => ?_, fun N hN => ?_, o1, o2, Or.inl ⟨x, _, _, hF, hV⟩⟩
        · obtain ⟨N, rfl⟩ : ∃ M, N = M + 1 := ⟨N - 1, by omega⟩
          rw [fX6_readFormula_20, hF.1, if_neg (nI_ne0 (by have := hF.2.2.2.2.1; omega) (by have := hF.2.2.2.2.2; omega))]
          split <;> rfl
        · obtain ⟨N, rfl⟩ : ∃ M, N = M + 1 := ⟨N - 1, by omega⟩
          have h18 : ¬ Sm1.1 54 18 = 0 := by rw [hF.2.2.1]; exact nI_ne0 (by have := hF.2.2.2.2.1; omega) (by have := hF.2.2.2.2.2; omega)
          rw [fX11_expression_14, if_neg h18]
          unfold fX11_expression_109
          rw [if_neg h18]
      · have hq' := rng.2.2.2.2.1 h1
        have c1 := rng.1
        have c2 := rng.2.2.2.1
        have nx : ∀ b', ((r1 = 1 ∧ r1' = 0 ∧ b' = 0) ∨ (r1 = 0 ∧ r1' = 1 ∧ b' = 1)) → PV s f w u n (kTq u n q) Sx1 Sm1 b' → _ := fun b' hb' hv => form_loop hs hw d (kTq u n q) (i + 1) Sx1 Sm1 r1 r1' b' (by omega) (by omega) hb' hv
        rcases h2 with ⟨e1, e2, hv⟩ | ⟨e1, e2, hv⟩
        · obtain ⟨Sx', Sm', g1, g2, g3⟩ := nx 0 (Or.inl ⟨e1, e2, rfl⟩) hv
          exact ⟨Sx', Sm', g1, g2, g3.tr w1 w2 (by omega)⟩
        · obtain ⟨Sx', Sm', g1, g2, g3⟩ := nx 1 (Or.inr ⟨e1, e2, rfl⟩) hv
          exact ⟨Sx', Sm', g1, g2, g3.tr w1 w2 (by omega)⟩
    have il : ¬ nI n < nI i := nI_nlt (by omega) (by omega)
    rcases hb with ⟨rfl, rfl, rfl⟩ | ⟨rfl, rfl, rfl⟩
    · obtain ⟨Sx1, Sm1, r1, r1', s1, s2, s3⟩ := step_op hs hw hvx hvm hpx hmx hp
      obtain ⟨Sx', Sm', g1, g2, g3⟩ := go Sx1 Sm1 r1 r1' s3
      refine ⟨Sx', Sm', fun N hN => ?_, fun N hN => ?_, g3⟩
      · obtain ⟨N, rfl⟩ : ∃ M, N = M + 1 := ⟨N - 1, by omega⟩
        rw [fX6_readFormula_20, if_neg il, if_pos hpx.2.1, if_neg i10, s1, g1 N (by omega)]
      · obtain ⟨N, rfl⟩ : ∃ M, N = M + 1 := ⟨N - 1, by omega⟩
        rw [fX11_expression_14, if_pos hmx.1, if_neg i10, if_pos rfl, s2, gbd_s, g2 N (by omega)]
    · have x62 : ¬ (kTt u n q = 4 ∧ o = 0) → ∀ N, fX6_readFormula_20 (N + 1) Sx f (nI n) 0 (nI i) = fX6_readFormula_62 (fX6_readFormula_20 N) Sx f (nI n) 0 (nI i) := by
        intro h N
        have ho8 := hp.2.2.1
        rw [fX6_readFormula_20, if_neg il, if_pos hpx.2.1, if_pos rfl, hpx.2.2.2.2.1, hvx.2.1]
        by_cases e : o = 0
        · rw [if_pos (show nI o = 0 by rw [e]; rfl), if_neg (show ¬ nI (kTt u n q) = (4 : Int32) from fun y => h ⟨(nI_eq (b := 4) (by omega) (by decide)).mp y, e⟩)]
        · rw [if_neg (nI_ne0 (by omega) (by omega))]
      have on : ∀ Sx1 Sm1 r1 r1', ¬ (kTt u n q = 4 ∧ o = 0) → (∀ k20 a2 i, fX6_readFormula_62 k20 Sx f a2 0 (nI i) = k20 Sx1 f a2 r1 (nI (i + 1))) → (∀ N, fX11_expression_14 (N + 1) Sm 1 1 = fX11_expression_14 N Sm1 r1' 1) → Out s f w u n q Sx Sm Sx1 Sm1 r1 r1' → ∃ Sx' Sm', (∀ N, d + 1 + 1 ≤ N → fX6_readFormula_20 N Sx f (nI n) 0 (nI i) = some ((), Sx')) ∧ (∀ N, d + 1 + 2 ≤ N → fX11_expression_14 N Sm 1 1 = some ((), Sm')) ∧ FEnd s f w u n q Sx Sm Sx' Sm' := by
        intro Sx1 Sm1 r1 r1' h4 s1 s2 s3
        obtain ⟨Sx', Sm', g1, g2, g3⟩ := go Sx1 Sm1 r1 r1' s3
        refine ⟨Sx', Sm', fun N hN => ?_, fun N hN => ?_, g3⟩
        · obtain ⟨N, rfl⟩ : ∃ M, N = M + 1 := ⟨N - 1, by omega⟩
          rw [x62 h4, s1, g1 N (by omega)]
        · obtain ⟨N, rfl⟩ : ∃ M, N = M + 1 := ⟨N - 1, by omega⟩
          rw [s2, g2 N (by omega)]
      by_cases c6 : kTt u n q = 6 ∧ 0 < o
      · obtain ⟨Sx1, Sm1, r1, r1', s1, s2, s3⟩ := step_cl hs hw hvx hvm hpx hmx hp c6.1 c6.2
        exact on Sx1 Sm1 r1 r1' (by omega) s1 s2 s3
      cases hbt : isBt (kTt u n q)
      · by_cases c4 : kTt u n q = 4 ∧ o = 0
        · obtain ⟨e4, rfl⟩ := c4
          obtain ⟨Sx', Sm', g1, g2, g3⟩ := step_end hs hw hvx hvm hpx hmx hp e4
          refine ⟨Sx', Sm', fun N hN => ?_, fun N hN => ?_, g3⟩
          · obtain ⟨N, rfl⟩ : ∃ M, N = M + 1 := ⟨N - 1, by omega⟩
            exact g1 N i (by omega)
          · obtain ⟨N, rfl⟩ : ∃ M, N = M + 2 := ⟨N - 2, by omega⟩
            exact g2 N
        · obtain ⟨Sx', Sm', r1, g1, g2, g3, g4⟩ := step_bad hs hw hvx hvm hpx hmx hp hbt c6 c4
          refine ⟨Sx', Sm', fun N hN => ?_, fun N hN => ?_, g4⟩
          · obtain ⟨N, rfl⟩ : ∃ M, N = M + 2 := ⟨N - 2, by omega⟩
            rw [show N + 2 = N + 1 + 1 from rfl, x62 c4, g1, fX6_readFormula_20, if_neg g2]
            split <;> rfl
          · obtain ⟨N, rfl⟩ : ∃ M, N = M + 2 := ⟨N - 2, by omega⟩
            exact g3 N
      · obtain ⟨Sx1, Sm1, r1, r1', s1, s2, s3⟩ := step_bt hs hw hvx hvm hpx hmx hp hbt
        have : kTt u n q ≠ 4 := by
          intro e
          rw [e] at hbt
          exact absurd hbt (by decide)
        exact on Sx1 Sm1 r1 r1' (fun e => this e.1) s1 s2 s3
/-- a formula, on both sides -/
theorem formula (hs : SF s f) (hw : w < 2) (hvx : VwX Sx u n q) (hvm : VwM Sm u n q) (h3 : Sx.2.2 3 = s) (h0 : Sx.1 31 0 = 0) (hc : Sx.1 s 1 = nI c) (hf : Sx.1 f 1 = nI 0) (h18 : Sm.1 54 18 = 0) (h10 : Sm.1 54 10 = nI c) (h22 : Sm.1 54 22 = nI (2 + w)) (h58 : Sm.1 58 (2 + w) = nI 0) (hc4 : c ≤ 64) :
    ∃ Sx' Sm', fX6_readFormula Sx f (nI n) = some ((), Sx') ∧ fX11_expression Sm = some ((), Sm') ∧ FEnd s f w u n q (gsi Sx f 0 1) Sm Sx' Sm' := by
  obtain ⟨n1, n2, n3⟩ := hs.n
  have hn := hvx.1.2.2.2.2.1
  have pv : PV s f w u n q (gsi (gsi (gsi Sx f 0 1) 31 5 0) 31 6 0) (gsi (gsi Sm 54 24 0) 54 25 0) 0 := by
    refine ⟨0, fun _ => 0, 0, c, 0, fun _ => 0, ?_, ?_, ⟨h3, ?_, ?_, fun i hi => absurd hi (Nat.not_lt_zero _), gsi_s, ?_, ?_, fun i hi => absurd hi (Nat.not_lt_zero _)⟩, ⟨?_, ?_, fun i hi => absurd hi (Nat.not_lt_zero _), gsi_s, ?_, ?_, ?_, fun i hi => absurd hi (Nat.not_lt_zero _)⟩, fun i hi => absurd hi (Nat.not_lt_zero _), rfl, by decide, Nat.zero_le _, hc4, rfl⟩
    · exact Wr.vx hvx rfl fun a b h => by rw [gsi_n (by omega), gsi_n (by omega), gsi_n (by omega)]
    · exact Wr.vm hvm fun a b h => by rw [gsi_n (by omega), gsi_n (by omega)]
    · rw [gsi_n (by omega), gsi_n (by omega), gsi_n (by omega)]; exact h0
    · rw [gsi_n (by omega), gsi_s]; rfl
    · rw [gsi_n (by omega), gsi_n (by omega), gsi_n (by omega)]; exact hc
    · rw [gsi_n (by omega), gsi_n (by omega), gsi_n (by omega)]; exact hf
    · rw [gsi_n (by omega), gsi_n (by omega)]; exact h18
    · rw [gsi_n (by omega), gsi_s]; rfl
    · rw [gsi_n (by omega), gsi_n (by omega)]; exact h10
    · rw [gsi_n (by omega), gsi_n (by omega)]; exact h22
    · rw [gsi_n (by omega), gsi_n (by omega)]; exact h58
  obtain ⟨Sx', Sm', g1, g2, g3⟩ := form_loop (u := u) (n := n) hs hw (n - q + 1) q 0 _ _ 1 0 0 (by omega) (Nat.zero_le _) (Or.inl ⟨rfl, rfl, rfl⟩) pv
  refine ⟨Sx', Sm', ?_, ?_, g3.tr ((Wr.rf.si (by simp [wXf]) _).si (by simp [wXf]) _) ((Wr.rf.si (by simp [wMf]) _).si (by simp [wMf]) _) (Nat.le_refl _)⟩
  · unfold fX6_readFormula
    rw [if_pos (form_cells hs.f Sx.2.2).1]
    exact g1 FU (by have := FU_gt (n := n - q + 1) (by omega); omega)
  · unfold fX11_expression
    exact g2 FU (by have := FU_gt (n := n - q + 3) (by omega); omega)
end

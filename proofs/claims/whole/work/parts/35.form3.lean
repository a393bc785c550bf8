/-! the reference works the formulas out; the rules in words -/
theorem big_32 (x : Int32) : gBig x.toInt64 = false := by
  unfold gBig
  have h := fb_rng x
  have e1 : (1000000000000 : Int64).toInt = 1000000000000 := by decide
  have e2 : (-1000000000000 : Int64).toInt = -1000000000000 := by decide
  rw [decide_eq_false, decide_eq_false]
  · rfl
  · rw [fa_lt64, Int32.toInt_toInt64, e2]; omega
  · rw [fa_lt64, Int32.toInt_toInt64, e1]; omega
section
variable {S : GS} {w n i h N : Nat} {x so va : Int32} {st nm : Nat → Int64}
theorem m_not (h28 : S.1 54 28 = nI (h + 1)) (hh : h + 1 ≤ 72) : fX11_does S 260 = some (1, gsl S 62 h (if S.2.1 62 h = 0 then 1 else 0)) := by
  unfold fX11_does
  rw [if_pos rfl, h28, nI_m1, if_pos (gib_nI (show h < 72 by omega) (by decide)), nI_clamp (show h < 2 ^ 31 by omega)]
  unfold fX11_does_38
  by_cases c : S.2.1 62 h = 0
  · rw [if_pos ((lg_cmp_eq _ _).mpr c), is_v, gbv_s, if_pos (gib_nI (show h < 72 by omega) (by decide)), nI_clamp (show h < 2 ^ 31 by omega), glet_s, if_pos c, if_neg (by decide)]
  · rw [if_neg (fun z => c ((lg_cmp_eq _ _).mp z)), is_v, gbv_s, if_pos (gib_nI (show h < 72 by omega) (by decide)), nI_clamp (show h < 2 ^ 31 by omega), glet_s, if_neg c, if_pos rfl]
theorem m_step (hk : gKn x so va) (hw : w < 4) (h58 : S.1 58 w = nI N) (h56 : S.1 56 (64 * w + i) = so) (h57 : S.1 57 (64 * w + i) = va) (hi : i < N) (hN : N ≤ 64) (hh : h ≤ 63) (hn : gNeed x h) (h28 : S.1 54 28 = nI h) (h62 : ∀ j, j < h → S.2.1 62 j = st j) (h61 : ∀ i, i < 8 → S.2.1 61 i = nm i) (hok : gOkN nm) :
    (gStp x nm h st = none → ∃ S', fX11_holdsE_60 (n + 1) S (nI w) (nI i) = some (0, S') ∧ ME S S') ∧ ∀ h' st', gStp x nm h st = some (h', st') → ∃ S', fX11_holdsE_60 (n + 1) S (nI w) (nI i) = fX11_holdsE_60 n S' (nI w) (nI (i + 1)) ∧ ME S S' ∧ (∀ i, i < 8 → S'.2.1 61 i = nm i) ∧ S'.1 54 28 = nI h' ∧ ∀ j, j < h' → S'.2.1 62 j = st' j := by
  have gw : gib (nI w) 4 = true := gib_nI hw (by decide)
  have ew : (nI w).toNatClampNeg = w := nI_clamp (by omega)
  have e4 : (64 : Int32) * nI w + nI i = nI (64 * w + i) := by
    show nI 64 * nI w + nI i = _
    rw [pk_mul, nI_add]
  have e60 : fX11_holdsE_60 (n + 1) S (nI w) (nI i) = (if so = (2 : Int32) then gbd (fX11_does S va) fun r10 S11 => (fX11_holdsE_134 (fX11_holdsE_60 n) S11 r10 (nI w) (nI i)) else (if so = 0 then (fX11_holdsE_131 (fX11_holdsE_60 n) S (va.toInt64) (nI w) (nI i)) else (if gib va 8 = true then (fX11_holdsE_131 (fX11_holdsE_60 n) S (S.2.1 61 va.toNatClampNeg) (nI w) (nI i)) else none))) := by
    rw [fX11_holdsE_60, if_pos gw, ew, h58, if_neg (nI_ge hi (by omega)), e4, glet_s, if_pos (gib_nI (show 64 * w + i < 256 by omega) (by decide)), nI_clamp (show 64 * w + i < 2 ^ 31 by omega), h56, h57]
  have push : ∀ v : Int64, gBig v = false → ∃ S', fX11_holdsE_131 (fX11_holdsE_60 n) S v (nI w) (nI i) = fX11_holdsE_60 n S' (nI w) (nI (i + 1)) ∧ ME S S' ∧ (∀ i, i < 8 → S'.2.1 61 i = nm i) ∧ S'.1 54 28 = nI (h + 1) ∧ ∀ j, j < h + 1 → S'.2.1 62 j = gUp st h v j := by
    intro v hv
    unfold fX11_holdsE_131 fX11_holdsE_134
    rw [m_puts h28 (show h < 72 by omega), gbd_s, hv]
    simp only [glet_s, nI_1]
    refine ⟨_, if_neg (by decide), me28 (ME.rf.sl _ _ _) _, fun k hk => ?_, by simp [gsi_r], fun j hj => ?_⟩
    · simp [gsi, gsl]; exact h61 k hk
    · by_cases z : j = h
      · subst z; rw [gUp_at]; simp [gsi, gsl]
      · rw [gUp_ne z]; simp [gsi, gsl, z]; exact h62 j (by omega)
  have pushed : ∀ v, gOp x = 0 → gV x nm = v → gBig v = false → fX11_holdsE_60 (n + 1) S (nI w) (nI i) = fX11_holdsE_131 (fX11_holdsE_60 n) S v (nI w) (nI i) → (gStp x nm h st = none → ∃ S', fX11_holdsE_60 (n + 1) S (nI w) (nI i) = some (0, S') ∧ ME S S') ∧ ∀ h' st', gStp x nm h st = some (h', st') → ∃ S', fX11_holdsE_60 (n + 1) S (nI w) (nI i) = fX11_holdsE_60 n S' (nI w) (nI (i + 1)) ∧ ME S S' ∧ (∀ i, i < 8 → S'.2.1 61 i = nm i) ∧ S'.1 54 28 = nI h' ∧ ∀ j, j < h' → S'.2.1 62 j = st' j := by
    intro v ho hv hb hr
    have es : gStp x nm h st = some (h + 1, gUp st h v) := by unfold gStp; rw [if_pos ho, hv]
    rw [es, hr]
    refine ⟨fun q => (by cases q), fun h' st' q => ?_⟩
    injection q with q
    injection q with q1 q2
    subst q1; subst q2
    exact push v hb
  rcases hk with ⟨m, m1, m2, m3, m4⟩ | ⟨m, m1, m2, m3, m4⟩ | ⟨t, t1, t2, t3, t4, t5⟩
  · obtain ⟨o1, o2⟩ := op_A m1
    refine pushed (nI m).toInt64 (by rw [m2]; exact o1) (by rw [m2]; exact o2 nm) (big_32 _) ?_
    rw [e60, m3, if_neg (by decide), if_pos rfl, m4]
  · obtain ⟨o1, o2⟩ := op_B m1
    refine pushed (nm m) (by rw [m2]; exact o1) (by rw [m2]; exact o2 nm) ?_ ?_
    · obtain ⟨y, hy⟩ := hok.1 m m1
      rw [hy]; exact big_32 y
    · rw [e60, m3, if_neg (by decide), if_neg (by decide), m4, if_pos (gib_nI m1 (by decide)), nI_clamp (by omega), h61 m m1]
  · obtain ⟨o1, o2⟩ := op_C t1 t2
    rw [e60, t4, if_pos rfl, t5]
    unfold fX11_holdsE_134
    simp only [glet_s, nI_1]
    by_cases c17 : t = 17
    · subst c17
      have hx1 : gOp x = 1 := by rw [t3]; exact o1
      have hx0 : ¬ gOp x = 0 := by rw [hx1]; decide
      have hge := hn.1 hx1
      obtain ⟨k, rfl⟩ : ∃ k, h = k + 1 := ⟨h - 1, by omega⟩
      have es : gStp x nm (k + 1) st = some (k + 1, gUp st k (if st k = 0 then 1 else 0)) := by unfold gStp; rw [if_neg hx0, if_pos hx1]; rfl
      rw [es, show gSg 17 = (260 : Int32) from rfl, m_not h28 (by omega), gbd_s, if_neg i10, h62 k (by omega)]
      refine ⟨fun q => (by cases q), fun h' st' q => ?_⟩
      injection q with q
      injection q with q1 q2
      subst q1; subst q2
      refine ⟨_, rfl, ME.rf.sl _ _ _, fun j hj => ?_, h28, fun j hj => ?_⟩
      · simp [gsl]; exact h61 j hj
      · by_cases z : j = k
        · subst z; rw [gUp_at]; simp [gsl]
        · rw [gUp_ne z]; simp [gsl, z]; exact h62 j hj
    · have hx2 : gOp x = 2 := by rw [t3, o1, if_neg c17]
      have hx0 : ¬ gOp x = 0 := by rw [hx2]; decide
      have hx1 : ¬ gOp x = 1 := by rw [hx2]; decide
      have hge := hn.2 hx0 hx1
      obtain ⟨k, rfl⟩ : ∃ k, h = k + 2 := ⟨h - 2, by omega⟩
      have ev : gWv (-x).toNatClampNeg (st (k + 2 - 2)) (st (k + 2 - 1)) = gWv t (st k) (st (k + 1)) := by rw [t3, o2]; rfl
      have es : gStp x nm (k + 2) st = if gBig (gWv t (st k) (st (k + 1))) = true then none else some (k + 1, gUp st k (gWv t (st k) (st (k + 1)))) := by unfold gStp; rw [if_neg hx0, if_neg hx1, ev]; rfl
      have dn := m_does2 (S := S) (h := k) h28 (by omega) t1 t2 c17
      rw [h62 k (by omega), h62 (k + 1) (by omega)] at dn
      rw [es]
      by_cases cb : gBig (gWv t (st k) (st (k + 1))) = true
      · rw [if_pos cb]
        obtain ⟨S', d1, d2, d3⟩ := dn.1 cb
        rw [d1, gbd_s, if_pos rfl]
        exact ⟨fun _ => ⟨S', rfl, d2⟩, fun h' st' q => (by cases q)⟩
      · rw [if_neg cb]
        obtain ⟨S', d1, d2, d3, d4, d5, d6⟩ := dn.2 (by simpa using cb)
        rw [d1, gbd_s, if_neg (by decide)]
        refine ⟨fun q => (by cases q), fun h' st' q => ?_⟩
        injection q with q
        injection q with q1 q2
        subst q1; subst q2
        refine ⟨S', rfl, d2, fun j hj => by rw [d3]; exact h61 j hj, d4, fun j hj => ?_⟩
        by_cases z : j = k
        · subst z; rw [gUp_at]; exact d5
        · rw [gUp_ne z, d6 j (by omega)]; exact h62 j (by omega)
theorem m_hold60 {K SO VA : Nat → Int32} (hw : w < 4) (hK : ∀ i, i < N → gKn (K i) (SO i) (VA i)) (hN : N ≤ 64) (hH : gHt2 K N = some 1) (hok : gOkN nm) :
    ∀ r i n S h st, i + r = N → r < n → (∀ i, i < N → S.1 56 (64 * w + i) = SO i ∧ S.1 57 (64 * w + i) = VA i) → S.1 58 w = nI N → gEv K nm i = some (h, st) → gHt2 K i = some h → S.1 54 28 = nI h → (∀ j, j < h → S.2.1 62 j = st j) → (∀ i, i < 8 → S.2.1 61 i = nm i) → ∃ S', fX11_holdsE_60 n S (nI w) (nI i) = some (gz (gRes K nm N), S') ∧ ME S S' := by
  intro r
  induction r with
  | zero =>
    intro i n S h st hi hn h1 h2 h3 h4 h28 h5 h6
    obtain ⟨n, rfl⟩ := Nat.exists_eq_add_of_lt hn
    have hiN : i = N := by omega
    subst hiN
    rw [hH] at h4
    injection h4 with h4
    subst h4
    rw [show 0 + n + 1 = n + 1 by omega, fX11_holdsE_60, if_pos (gib_nI hw (by decide)), nI_clamp (show w < 2 ^ 31 by omega), h2, if_pos (nI_le (Nat.le_refl _) (by omega)), h5 0 (by omega)]
    have hres : gRes K nm i = !decide (st 0 = 0) := by unfold gRes; rw [h3]
    rw [hres]
    by_cases cz : st 0 = 0
    · rw [if_pos ((lg_cmp_eq _ _).mpr cz), decide_eq_true cz]; exact ⟨S, rfl, ME.rf⟩
    · rw [if_neg (fun z => cz ((lg_cmp_eq _ _).mp z)), decide_eq_false cz]; exact ⟨S, rfl, ME.rf⟩
  | succ r ih =>
    intro i n S h st hi hn h1 h2 h3 h4 h28 h5 h6
    obtain ⟨n, rfl⟩ := Nat.exists_eq_add_of_lt hn
    obtain ⟨k, hk⟩ := ht_some hH (show i + 1 ≤ N by omega)
    have hle := ht_le h4
    obtain ⟨q1, q2⟩ := ht_step h4 hk
    obtain ⟨a1, a2⟩ := m_step (S := S) (n := r + 1 + n) (st := st) (nm := nm) (h := h) (hK i (by omega)) hw h2 (h1 i (by omega)).1 (h1 i (by omega)).2 (show i < N by omega) hN (by omega) q1 h28 h5 h6 hok
    have ee : gEv K nm (i + 1) = gStp (K i) nm h st := by
      show (match gEv K nm i with | none => none | some q => gStp (K i) nm q.1 q.2) = _
      rw [h3]
    cases hs : gStp (K i) nm h st with
    | none =>
      rw [show r + 1 + n + 1 = (r + 1 + n) + 1 from rfl, res_none (ee.trans hs) (show i + 1 ≤ N by omega)]
      exact a1 hs
    | some q =>
      obtain ⟨h', st'⟩ := q
      obtain ⟨S', b1, b2, b3, b4, b5⟩ := a2 h' st' hs
      have hh' := q2 nm st h' st' hs
      obtain ⟨S3, c1, c2⟩ := ih (i + 1) (r + 1 + n) S' h' st' (by omega) (by omega) (fun j hj => by rw [b2.1 56 (by decide), b2.1 57 (by decide)]; exact h1 j hj) (by rw [b2.1 58 (by decide)]; exact h2) (ee.trans hs) (by rw [hh']; exact hk) b4 b5 b3
      exact ⟨S3, by rw [show r + 1 + n + 1 = (r + 1 + n) + 1 from rfl, b1]; exact c1, b2.tr c2⟩
end
theorem m_line {f : Nat → Nat → Int32} {S : GS} {c w : Nat} {nm : Nat → Int64} (hw : w < 4) (hl : IVl f c w) (h5 : ∀ c, 55 ≤ c → c ≤ 59 → S.1 c = f c) (hok : gOkN nm) (h61 : ∀ i, i < 8 → S.2.1 61 i = nm i) : ∃ S', fX11_holdsE S (nI w) = some (gz (gLine f c nm), S') ∧ ME S S' := by
  unfold fX11_holdsE gLine
  rw [if_pos (gib_nI hw (by decide)), nI_clamp (show w < 2 ^ 31 by omega), h5 59 (by decide) (by decide), hl.1]
  rcases hl.2 with h0 | ⟨h0, N, n1, n2, n3, n4, n5⟩
  · rw [if_pos h0, if_pos h0, h61 3 (by omega), h61 2 (by omega), h61 1 (by omega), h61 0 (by omega)]
    unfold gDef
    rcases hok.2.2 with c3 | c3
    · rw [if_neg (by rw [c3]; decide), c3]; exact ⟨S, rfl, ME.rf⟩
    · rw [if_pos (by rw [c3]; decide), c3]
      by_cases c1 : nm 1 < nm 0
      · rw [if_pos ((lg_cmp_gt _ _).mpr c1), decide_eq_true c1]; exact ⟨S, rfl, ME.rf⟩
      · rw [if_neg (fun z => c1 ((lg_cmp_gt _ _).mp z)), decide_eq_false c1]
        rcases hok.2.1 with c2 | c2
        · rw [if_neg (by rw [c2]; decide), c2]; exact ⟨S, rfl, ME.rf⟩
        · rw [if_pos (by rw [c2]; decide), c2]; exact ⟨S, rfl, ME.rf⟩
  · have hz : ¬ f c 0 = 0 := by rw [h0]; decide
    rw [if_neg hz, if_neg hz, n2, nI_clamp (by omega)]
    simp only [glet_s]
    have s28 : ME S (gsi S 54 28 0) := me28 ME.rf _
    have e28 : (gsi S 54 28 0).1 54 28 = nI 0 := by simp [gsi_r]; rfl
    have g61 : ∀ i, i < 8 → (gsi S 54 28 0).2.1 61 i = nm i := h61
    obtain ⟨S', a1, a2⟩ := m_hold60 (w := w) (K := f (c + 1)) (SO := fun i => f 56 (64 * w + i)) (VA := fun i => f 57 (64 * w + i)) hw n4 n1 n5 hok N 0 FU (gsi S 54 28 0) 0 (fun _ => 0) (by omega) (FU_gt (by omega)) (fun i hi => by rw [s28.1 56 (by decide), s28.1 57 (by decide), h5 56 (by decide) (by decide), h5 57 (by decide) (by decide)]; exact ⟨rfl, rfl⟩) (by rw [s28.1 58 (by decide), h5 58 (by decide) (by decide)]; exact n3) rfl rfl e28 (fun j hj => absurd hj (Nat.not_lt_zero _)) g61
    exact ⟨S', a1, s28.tr a2⟩
/-- the rules in force, in words, for both sides -/
theorem rules_ex {S : GS} (h : IV S) : ∃ t0 t1 en, RX S.1 (S.2.2 0) t0 t1 en ∧ MR S.1 t0 t1 en := by
  obtain ⟨td, nt, nc, np, nk, nn, ht, hc, hp, hk, hn, hr, hf⟩ := id h
  obtain ⟨en, he1, he2⟩ := gib_ex hr.2.2.2.1 (by decide)
  obtain ⟨r, hr0⟩ : ∃ r, S.2.2 0 = r := ⟨_, rfl⟩
  rw [hr0] at hr he2 ⊢
  have hcs : (r + 1 = 22 ∨ r + 1 = 24 ∨ r + 1 = 27 ∨ r + 1 = 29) ∧ (r + 3 = 22 ∨ r + 3 = 24 ∨ r + 3 = 27 ∨ r + 3 = 29) := by
    rcases hr.1 with ⟨z, -⟩ | ⟨z, -⟩ <;> omega
  have hr2 : r = 21 ∨ r = 26 := by rcases hr.1 with ⟨z, -⟩ | ⟨z, -⟩ <;> omega
  refine ⟨gLine S.1 (r + 1), gLine S.1 (r + 3), en, ⟨hr2, he2, he1, fun S' nm h1 h2 => ?_⟩, by rw [← hr.2.2.1]; exact he2, he1, fun S' nm h1 h2 h3 => ?_⟩
  · exact ⟨x_line hcs.1 hr.2.2.2.2.2.1 (h1 _ (by omega) (by omega)) (h1 _ (by omega) (by omega)) h2, x_line hcs.2 hr.2.2.2.2.2.2 (h1 _ (by omega) (by omega)) (h1 _ (by omega) (by omega)) h2⟩
  · exact ⟨m_line (w := 0) (by decide) hr.2.2.2.2.2.1 h1 h2 h3, m_line (w := 1) (by decide) hr.2.2.2.2.2.2 h1 h2 h3⟩

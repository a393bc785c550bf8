/-! a formula, knot by knot -/
def gUp (st : Nat → Int64) (i : Nat) (v : Int64) : Nat → Int64 := fun j => if j = i then v else st j
def gV (x : Int32) (nm : Nat → Int64) : Int64 := if 0 ≤ x then x.toInt64 else nm (-x - 20).toNatClampNeg
def gStp (x : Int32) (nm : Nat → Int64) (h : Nat) (st : Nat → Int64) : Option (Nat × (Nat → Int64)) :=
  if gOp x = 0 then some (h + 1, gUp st h (gV x nm))
  else if gOp x = 1 then some (h, gUp st (h - 1) (if st (h - 1) = 0 then 1 else 0))
  else if gBig (gWv (-x).toNatClampNeg (st (h - 2)) (st (h - 1))) = true then none else some (h - 1, gUp st (h - 2) (gWv (-x).toNatClampNeg (st (h - 2)) (st (h - 1))))
def gEv (K : Nat → Int32) (nm : Nat → Int64) : Nat → Option (Nat × (Nat → Int64))
  | 0 => some (0, fun _ => 0)
  | i + 1 => match gEv K nm i with
    | none => none
    | some q => gStp (K i) nm q.1 q.2
def gRes (K : Nat → Int32) (nm : Nat → Int64) (n : Nat) : Bool := match gEv K nm n with
  | none => false
  | some q => !decide (q.2 0 = 0)
theorem ev_none {K : Nat → Int32} {nm : Nat → Int64} {i : Nat} (h : gEv K nm i = none) : ∀ d, gEv K nm (i + d) = none
  | 0 => h
  | d + 1 => by
    show (match gEv K nm (i + d) with | none => none | some q => gStp (K (i + d)) nm q.1 q.2) = none
    rw [ev_none h d]
theorem res_none {K : Nat → Int32} {nm : Nat → Int64} {i n : Nat} (h : gEv K nm i = none) (hin : i ≤ n) : gRes K nm n = false := by
  unfold gRes
  have := ev_none h (n - i)
  rw [show i + (n - i) = n by omega] at this
  rw [this]
theorem ht_back {K : Nat → Int32} {i : Nat} : ∀ d, gHt2 K i = none → gHt2 K (i + d) = none
  | 0, h => h
  | d + 1, h => by
    show (match gHt2 K (i + d) with | none => none | some h => _) = none
    rw [ht_back d h]
theorem ht_some {K : Nat → Int32} {i n : Nat} {q : Nat} (h : gHt2 K n = some q) (hin : i ≤ n) : ∃ k, gHt2 K i = some k := by
  cases hk : gHt2 K i with
  | none =>
    have := ht_back (n - i) hk
    rw [show i + (n - i) = n by omega, h] at this
    cases this
  | some k => exact ⟨k, rfl⟩
theorem ht_le {K : Nat → Int32} : ∀ {i h : Nat}, gHt2 K i = some h → h ≤ i
  | 0, h, q => by
    have : some 0 = some h := q
    injection this with this
    omega
  | i + 1, h, q => by
    cases hk : gHt2 K i with
    | none =>
      have := ht_back 1 hk
      rw [q] at this; cases this
    | some k =>
      have hle := ht_le hk
      have e : gHt2 K (i + 1) = if gOp (K i) = 0 then some (k + 1) else if gOp (K i) = 1 then (if 1 ≤ k then some k else none) else (if 2 ≤ k then some (k - 1) else none) := by
        show (match gHt2 K i with | none => none | some h => _) = _
        rw [hk]
      rw [e] at q
      by_cases c0 : gOp (K i) = 0
      · rw [if_pos c0] at q; injection q with q; omega
      · rw [if_neg c0] at q
        by_cases c1 : gOp (K i) = 1
        · rw [if_pos c1] at q
          by_cases c2 : 1 ≤ k
          · rw [if_pos c2] at q; injection q with q; omega
          · rw [if_neg c2] at q; cases q
        · rw [if_neg c1] at q
          by_cases c2 : 2 ≤ k
          · rw [if_pos c2] at q; injection q with q; omega
          · rw [if_neg c2] at q; cases q
/-- what a knot asks of the height -/
def gNeed (x : Int32) (h : Nat) : Prop := (gOp x = 1 → 1 ≤ h) ∧ (gOp x ≠ 0 → gOp x ≠ 1 → 2 ≤ h)
theorem ht_step {K : Nat → Int32} {i h k : Nat} (h1 : gHt2 K i = some h) (h2 : gHt2 K (i + 1) = some k) : gNeed (K i) h ∧ ∀ nm st h' st', gStp (K i) nm h st = some (h', st') → h' = k := by
  have e : gHt2 K (i + 1) = if gOp (K i) = 0 then some (h + 1) else if gOp (K i) = 1 then (if 1 ≤ h then some h else none) else (if 2 ≤ h then some (h - 1) else none) := by
    show (match gHt2 K i with | none => none | some h => _) = _
    rw [h1]
  rw [e] at h2
  unfold gNeed
  by_cases c0 : gOp (K i) = 0
  · rw [if_pos c0] at h2
    injection h2 with h2
    refine ⟨⟨fun q => by omega, fun q => absurd c0 q⟩, fun nm st h' st' q => ?_⟩
    unfold gStp at q
    rw [if_pos c0] at q
    injection q with q; injection q with q; omega
  · rw [if_neg c0] at h2
    by_cases c1 : gOp (K i) = 1
    · rw [if_pos c1] at h2
      by_cases c2 : 1 ≤ h
      · rw [if_pos c2] at h2
        injection h2 with h2
        refine ⟨⟨fun _ => c2, fun _ q => absurd c1 q⟩, fun nm st h' st' q => ?_⟩
        unfold gStp at q
        rw [if_neg c0, if_pos c1] at q
        injection q with q; injection q with q; omega
      · rw [if_neg c2] at h2; cases h2
    · rw [if_neg c1] at h2
      by_cases c2 : 2 ≤ h
      · rw [if_pos c2] at h2
        injection h2 with h2
        refine ⟨⟨fun q => absurd q c1, fun _ _ => c2⟩, fun nm st h' st' q => ?_⟩
        unfold gStp at q
        rw [if_neg c0, if_neg c1] at q
        split at q
        · cases q
        · injection q with q; injection q with q; omega
      · rw [if_neg c2] at h2; cases h2
theorem neg_neg32 (x : Int32) : -(-x) = x := by simp
theorem op_A {n : Nat} (hn : n ≤ 9999) : gOp (nI n) = 0 ∧ ∀ nm, gV (nI n) nm = (nI n).toInt64 := by
  have h : (0 : Int32) ≤ nI n := nI_pos' (by omega)
  exact ⟨by unfold gOp; rw [if_pos h], fun nm => by unfold gV; rw [if_pos h]⟩
theorem op_B {n : Nat} (hn : n < 8) : gOp (-(nI (20 + n))) = 0 ∧ ∀ nm, gV (-(nI (20 + n))) nm = nm n := by
  rcases (show n = 0 ∨ n = 1 ∨ n = 2 ∨ n = 3 ∨ n = 4 ∨ n = 5 ∨ n = 6 ∨ n = 7 by omega) with rfl | rfl | rfl | rfl | rfl | rfl | rfl | rfl <;> exact ⟨by decide, fun nm => rfl⟩
theorem op_C {t : Nat} (h1 : 7 ≤ t) (h2 : t ≤ 19) : gOp (-(nI t)) = (if t = 17 then 1 else 2) ∧ (-(-(nI t))).toNatClampNeg = t := by
  rcases (show t = 7 ∨ t = 8 ∨ t = 9 ∨ t = 10 ∨ t = 11 ∨ t = 12 ∨ t = 13 ∨ t = 14 ∨ t = 15 ∨ t = 16 ∨ t = 17 ∨ t = 18 ∨ t = 19 by omega) with rfl | rfl | rfl | rfl | rfl | rfl | rfl | rfl | rfl | rfl | rfl | rfl | rfl <;> exact ⟨by decide, by decide⟩
theorem form_cells {c : Nat} (hc : c = 22 ∨ c = 24 ∨ c = 27 ∨ c = 29) (q : Nat → Nat) : gk c = 2 ∧ gr q c 2 = c + 1 ∧ gk (c + 1) = 12 ∧ gn (c + 1) = 64 := by
  rcases hc with rfl | rfl | rfl | rfl <;> exact ⟨rfl, rfl, rfl, rfl⟩
theorem gUp_at {st : Nat → Int64} {i : Nat} {v : Int64} : gUp st i v i = v := if_pos rfl
theorem gUp_ne {st : Nat → Int64} {i j : Nat} {v : Int64} (h : j ≠ i) : gUp st i v j = st j := if_neg h
section
variable {S : GS} {c n i h N : Nat} {x so va : Int32} {st nm : Nat → Int64}
theorem x_push (hh : h ≤ 63) (h50 : ∀ i, i < 8 → S.2.1 50 i = nm i) (h51 : ∀ j, j < h → S.2.1 51 j = st j) {w : Nat} (hw : w < 64) (v : Int64) {g : Nat} (hg : g ≤ w + 1) (hst : ∀ j, j < g → j ≠ w → S.2.1 51 j = st j) : LE S (gsl S 51 w v) ∧ (∀ i, i < 8 → (gsl S 51 w v).2.1 50 i = nm i) ∧ ∀ j, j < g → (gsl S 51 w v).2.1 51 j = gUp st w v j := by
  refine ⟨LE.rf.sl _ _ _, fun i hi => ?_, fun j hj => ?_⟩
  · simp [gsl]; exact h50 i hi
  · by_cases z : j = w
    · subst z; rw [gUp_at]; simp [gsl]
    · rw [gUp_ne z]; simp [gsl, z]; exact hst j hj z
theorem x_step (hk : gKn x so va) (hc : c = 22 ∨ c = 24 ∨ c = 27 ∨ c = 29) (hx : S.1 (c + 1) i = x) (h1 : S.1 c 1 = nI N) (hi : i < N) (hN : N ≤ 64) (hh : h ≤ 63) (hn : gNeed x h) (h51 : ∀ j, j < h → S.2.1 51 j = st j) (h50 : ∀ i, i < 8 → S.2.1 50 i = nm i) :
    (gStp x nm h st = none → fX2_isTrue_44 (n + 1) S c (nI h) (nI i) = some (0, S)) ∧ ∀ h' st', gStp x nm h st = some (h', st') → ∃ S', fX2_isTrue_44 (n + 1) S c (nI h) (nI i) = fX2_isTrue_44 n S' c (nI h') (nI (i + 1)) ∧ LE S S' ∧ (∀ i, i < 8 → S'.2.1 50 i = nm i) ∧ ∀ j, j < h' → S'.2.1 51 j = st' j := by
  obtain ⟨f1, f2, f3, f4⟩ := form_cells hc S.2.2
  have g64 : ¬ (64 : Int32) ≤ nI h := by
    show ¬ nI 64 ≤ nI h
    exact nI_ge (by omega) (by decide)
  have e44 : ∀ r, glet (-x) (fun v6 => (if v6 ≤ 0 then (fX2_isTrue_88 (fX2_isTrue_44 n) S c (nI h) (nI i) v6) else (if v6 < (20 : Int32) then (fX2_isTrue_116 (fX2_isTrue_44 n) S c (nI h) (nI i) v6) else (if (27 : Int32) < v6 then (fX2_isTrue_116 (fX2_isTrue_44 n) S c (nI h) (nI i) v6) else (fX2_isTrue_88 (fX2_isTrue_44 n) S c (nI h) (nI i) v6))))) = r → fX2_isTrue_44 (n + 1) S c (nI h) (nI i) = r := by
    intro r hr
    rw [fX2_isTrue_44, if_pos f1, h1, if_neg (nI_ge hi (by omega)), if_neg g64, f2, if_pos f3, f4, if_pos (gib_nI (show i < 64 by omega) (by decide)), nI_clamp (show i < 2 ^ 31 by omega), hx]
    exact hr
  have g109 : ∀ v, fX2_isTrue_109 (fX2_isTrue_44 n) S (nI h) v c (nI h) (nI i) = fX2_isTrue_44 n (gsl S 51 h v) c (nI (h + 1)) (nI (i + 1)) := fun v => by
    unfold fX2_isTrue_109
    rw [if_pos (gib_nI (show h < 64 by omega) (by decide)), nI_clamp (show h < 2 ^ 31 by omega)]
    simp only [glet_s, nI_1]
  have pushed : ∀ v, gOp x = 0 → gV x nm = v → fX2_isTrue_44 (n + 1) S c (nI h) (nI i) = fX2_isTrue_44 n (gsl S 51 h v) c (nI (h + 1)) (nI (i + 1)) → (gStp x nm h st = none → fX2_isTrue_44 (n + 1) S c (nI h) (nI i) = some (0, S)) ∧ ∀ h' st', gStp x nm h st = some (h', st') → ∃ S', fX2_isTrue_44 (n + 1) S c (nI h) (nI i) = fX2_isTrue_44 n S' c (nI h') (nI (i + 1)) ∧ LE S S' ∧ (∀ i, i < 8 → S'.2.1 50 i = nm i) ∧ ∀ j, j < h' → S'.2.1 51 j = st' j := by
    intro v ho hv hr
    have es : gStp x nm h st = some (h + 1, gUp st h v) := by unfold gStp; rw [if_pos ho, hv]
    rw [es]
    refine ⟨fun q => (by cases q), fun h' st' q => ?_⟩
    injection q with q
    injection q with q1 q2
    subst q1; subst q2
    obtain ⟨p1, p2, p3⟩ := x_push (st := st) hh h50 h51 (show h < 64 by omega) v (Nat.le_refl _) (fun j hj hne => h51 j (by omega))
    exact ⟨_, hr, p1, p2, p3⟩
  rcases hk with ⟨m, m1, m2, -⟩ | ⟨m, m1, m2, -⟩ | ⟨t, t1, t2, t3, -⟩
  · obtain ⟨o1, o2⟩ := op_A m1
    refine pushed (nI m).toInt64 (by rw [m2]; exact o1) (by rw [m2]; exact o2 nm) (e44 _ ?_)
    have hle : -(nI m) ≤ (0 : Int32) := by
      rw [fa_le, fb_negI (by rw [nI_toInt (by omega)]; omega), nI_toInt (by omega)]
      show -(m : Int) ≤ 0
      omega
    rw [m2, glet_s, if_pos hle]
    unfold fX2_isTrue_88
    rw [if_neg (fun z => (fa_of_lt z).2.1 hle), neg_neg32]
    exact g109 _
  · obtain ⟨o1, o2⟩ := op_B m1
    refine pushed (nm m) (by rw [m2]; exact o1) (by rw [m2]; exact o2 nm) (e44 _ ?_)
    have p20 : nI (20 + m) - (20 : Int32) = nI m := by
      rw [← nI_add]
      show nI 20 + nI m - nI 20 = nI m
      rw [Int32.add_comm]; simp
    have h20 : ¬ nI (20 + m) < (20 : Int32) := by show ¬ nI (20 + m) < nI 20; exact nI_nlt (by omega) (by omega)
    have h27 : ¬ (27 : Int32) < nI (20 + m) := by show ¬ nI 27 < nI (20 + m); exact nI_nlt (by omega) (by omega)
    have h0 : (0 : Int32) < nI (20 + m) := by show nI 0 < nI (20 + m); exact nI_lt (by omega) (by omega)
    rw [m2, neg_neg32, glet_s, if_neg (nI_nle (by omega) (by omega)), if_neg h20, if_neg h27]
    unfold fX2_isTrue_88
    rw [if_pos h0, p20, if_pos (gib_nI m1 (by decide)), nI_clamp (by omega), h50 m m1]
    exact g109 _
  · obtain ⟨o1, o2⟩ := op_C t1 t2
    have ht20 : nI t < (20 : Int32) := by show nI t < nI 20; exact nI_lt (by omega) (by omega)
    have e116 : ∀ r, fX2_isTrue_116 (fX2_isTrue_44 n) S c (nI h) (nI i) (nI t) = r → fX2_isTrue_44 (n + 1) S c (nI h) (nI i) = r := by
      intro r hr
      refine e44 _ ?_
      rw [t3, neg_neg32, glet_s, if_neg (nI_nle (by omega) (by omega)), if_pos ht20]
      exact hr
    by_cases c17 : t = 17
    · subst c17
      have hx1 : gOp x = 1 := by rw [t3]; exact o1
      have hx0 : ¬ gOp x = 0 := by rw [hx1]; decide
      have hge := hn.1 hx1
      obtain ⟨k, rfl⟩ : ∃ k, h = k + 1 := ⟨h - 1, by omega⟩
      have es : gStp x nm (k + 1) st = some (k + 1, gUp st k (if st k = 0 then 1 else 0)) := by unfold gStp; rw [if_neg hx0, if_pos hx1]; rfl
      rw [es]
      refine ⟨fun q => (by cases q), fun h' st' q => ?_⟩
      injection q with q
      injection q with q1 q2
      subst q1; subst q2
      have f147 : ∀ v, fX2_isTrue_147 (fX2_isTrue_44 n) S (nI k) v c (nI (k + 1)) (nI i) = fX2_isTrue_44 n (gsl S 51 k v) c (nI (k + 1)) (nI (i + 1)) := fun v => by
        unfold fX2_isTrue_147
        rw [if_pos (gib_nI (show k < 64 by omega) (by decide)), nI_clamp (show k < 2 ^ 31 by omega)]
        simp only [glet_s, nI_1]
      refine ⟨gsl S 51 k (if st k = 0 then 1 else 0), e116 _ ?_, x_push (st := st) hh h50 h51 (show k < 64 by omega) _ (by omega) (fun j hj hne => h51 j (by omega))⟩
      unfold fX2_isTrue_116
      have n1 : ¬ nI (k + 1) < (1 : Int32) := by show ¬ nI (k + 1) < nI 1; exact nI_nlt (by omega) (by omega)
      rw [if_pos (show nI 17 = (17 : Int32) from rfl), if_neg n1, nI_m1, if_pos (gib_nI (show k < 64 by omega) (by decide)), nI_clamp (show k < 2 ^ 31 by omega), h51 k (by omega)]
      by_cases cz : st k = 0
      · rw [if_pos ((lg_cmp_eq _ _).mpr cz), if_pos cz]; exact f147 _
      · rw [if_neg (fun z => cz ((lg_cmp_eq _ _).mp z)), if_neg cz]; exact f147 _
    · have hx2 : gOp x = 2 := by rw [t3, o1, if_neg c17]
      have hx0 : ¬ gOp x = 0 := by rw [hx2]; decide
      have hx1 : ¬ gOp x = 1 := by rw [hx2]; decide
      have hge := hn.2 hx0 hx1
      obtain ⟨k, rfl⟩ : ∃ k, h = k + 2 := ⟨h - 2, by omega⟩
      have ev : gWv (-x).toNatClampNeg (st (k + 2 - 2)) (st (k + 2 - 1)) = gWv t (st k) (st (k + 1)) := by rw [t3, o2]; rfl
      have es : gStp x nm (k + 2) st = if gBig (gWv t (st k) (st (k + 1))) = true then none else some (k + 1, gUp st k (gWv t (st k) (st (k + 1)))) := by unfold gStp; rw [if_neg hx0, if_neg hx1, ev]; rfl
      have n17 : ¬ nI t = (17 : Int32) := by show ¬ nI t = nI 17; rw [nI_eq (by omega) (by omega)]; exact c17
      have n2 : ¬ nI (k + 2) < (2 : Int32) := by show ¬ nI (k + 2) < nI 2; exact nI_nlt (by omega) (by omega)
      have e151 : fX2_isTrue_116 (fX2_isTrue_44 n) S c (nI (k + 2)) (nI i) (nI t) = (if 0 < (lg_cmp (gWv t (st k) (st (k + 1))) (1000000000000 : Int64)) then (some ((0 : Int32), S)) else (if 0 ≤ (lg_cmp (gWv t (st k) (st (k + 1))) (-1000000000000 : Int64)) then fX2_isTrue_44 n (gsl S 51 k (gWv t (st k) (st (k + 1)))) c (nI (k + 1)) (nI (i + 1)) else (some ((0 : Int32), S)))) := by
        unfold fX2_isTrue_116 fX2_isTrue_151
        rw [if_neg n17, if_neg n2, m1_eq, show nI (k + 2) = nI ((k + 1) + 1) from rfl, nI_m1, glet_s, nI_m1, if_pos (gib_nI (show k < 64 by omega) (by decide)), if_pos (gib_nI (show k + 1 < 64 by omega) (by decide)), nI_clamp (show k < 2 ^ 31 by omega), nI_clamp (show k + 1 < 2 ^ 31 by omega), h51 k (by omega), h51 (k + 1) (by omega), x_work t1 t2 c17, gbv_s]
        simp only [glet_s, nI_1]
      rw [es]
      have e' := e116 _ e151
      by_cases cb : gBig (gWv t (st k) (st (k + 1))) = true
      · rw [if_pos cb]
        refine ⟨fun _ => ?_, fun h' st' q => (by cases q)⟩
        rw [e']
        unfold gBig at cb
        simp only [Bool.or_eq_true, decide_eq_true_eq] at cb
        by_cases c1 : (1000000000000 : Int64) < gWv t (st k) (st (k + 1))
        · rw [if_pos ((lg_cmp_gt _ _).mpr c1)]
        · rw [if_neg (fun z => c1 ((lg_cmp_gt _ _).mp z)), if_neg]
          intro z
          have c2 := (lg_cmp_ge _ _).mp z
          rcases cb with cb | cb
          · exact c1 cb
          · rw [fa_lt64] at cb
            rw [fa_le64] at c2
            omega
      · rw [if_neg cb]
        refine ⟨fun q => (by cases q), fun h' st' q => ?_⟩
        injection q with q
        injection q with q1 q2
        subst q1; subst q2
        unfold gBig at cb
        simp only [Bool.or_eq_true, decide_eq_true_eq, not_or] at cb
        refine ⟨_, ?_, x_push (st := st) hh h50 h51 (show k < 64 by omega) _ (Nat.le_refl _) (fun j hj hne => h51 j (by omega))⟩
        rw [e', if_neg (fun z => cb.1 ((lg_cmp_gt _ _).mp z)), if_pos]
        refine (lg_cmp_ge _ _).mpr ?_
        rw [fa_le64]
        have := cb.2
        rw [fa_lt64] at this
        omega
theorem x_true44 {K : Nat → Int32} {SO VA : Nat → Int32} (hc : c = 22 ∨ c = 24 ∨ c = 27 ∨ c = 29) (hK : ∀ i, i < N → gKn (K i) (SO i) (VA i)) (hN : N ≤ 64) (hH : gHt2 K N = some 1) :
    ∀ r i n S h st, i + r = N → r < n → S.1 (c + 1) = K → S.1 c 1 = nI N → gEv K nm i = some (h, st) → gHt2 K i = some h → (∀ j, j < h → S.2.1 51 j = st j) → (∀ i, i < 8 → S.2.1 50 i = nm i) → ∃ S', fX2_isTrue_44 n S c (nI h) (nI i) = some (gz (gRes K nm N), S') ∧ LE S S' := by
  intro r
  induction r with
  | zero =>
    intro i n S h st hi hn h1 h2 h3 h4 h5 h6
    obtain ⟨n, rfl⟩ := Nat.exists_eq_add_of_lt hn
    have hiN : i = N := by omega
    subst hiN
    rw [hH] at h4
    injection h4 with h4
    subst h4
    obtain ⟨f1, f2, f3, f4⟩ := form_cells hc S.2.2
    rw [show 0 + n + 1 = n + 1 by omega, fX2_isTrue_44, if_pos f1, h2, if_pos (nI_le (Nat.le_refl _) (by omega))]
    unfold fX2_isTrue_207
    rw [if_pos (show nI 1 = (1 : Int32) from rfl), h5 0 (by omega)]
    have hres : gRes K nm i = !decide (st 0 = 0) := by unfold gRes; rw [h3]
    rw [hres]
    by_cases cz : st 0 = 0
    · rw [if_pos ((lg_cmp_eq _ _).mpr cz), decide_eq_true cz]; exact ⟨S, rfl, LE.rf⟩
    · rw [if_neg (fun z => cz ((lg_cmp_eq _ _).mp z)), decide_eq_false cz]; exact ⟨S, rfl, LE.rf⟩
  | succ r ih =>
    intro i n S h st hi hn h1 h2 h3 h4 h5 h6
    obtain ⟨n, rfl⟩ := Nat.exists_eq_add_of_lt hn
    obtain ⟨k, hk⟩ := ht_some hH (show i + 1 ≤ N by omega)
    have hle := ht_le h4
    obtain ⟨q1, q2⟩ := ht_step h4 hk
    obtain ⟨a1, a2⟩ := x_step (S := S) (n := r + 1 + n) (st := st) (nm := nm) (h := h) (hK i (by omega)) hc (by rw [h1]) h2 (show i < N by omega) hN (by omega) q1 h5 h6
    have ee : gEv K nm (i + 1) = gStp (K i) nm h st := by
      show (match gEv K nm i with | none => none | some q => gStp (K i) nm q.1 q.2) = _
      rw [h3]
    cases hs : gStp (K i) nm h st with
    | none =>
      rw [show r + 1 + n + 1 = (r + 1 + n) + 1 from rfl, a1 hs, res_none (ee.trans hs) (show i + 1 ≤ N by omega)]
      exact ⟨S, rfl, LE.rf⟩
    | some q =>
      obtain ⟨h', st'⟩ := q
      obtain ⟨S', b1, b2, b3, b4⟩ := a2 h' st' hs
      have hh' := q2 nm st h' st' hs
      obtain ⟨S3, c1, c2⟩ := ih (i + 1) (r + 1 + n) S' h' st' (by omega) (by omega) (by rw [b2.1]; exact h1) (by rw [b2.1]; exact h2) (ee.trans hs) (by rw [hh']; exact hk) b4 b3
      exact ⟨S3, by rw [show r + 1 + n + 1 = (r + 1 + n) + 1 from rfl, b1]; exact c1, b2.tr c2⟩
end
/-- no line told: the rule of the house -/
def gDef (nm : Nat → Int64) : Bool := !decide (nm 3 = 0) && (decide (nm 1 < nm 0) || !decide (nm 2 = 0))
def gLine (f : Nat → Nat → Int32) (c : Nat) (nm : Nat → Int64) : Bool := if f c 0 = 0 then gDef nm else gRes (f (c + 1)) nm (f c 1).toNatClampNeg
theorem x_line {f : Nat → Nat → Int32} {S : GS} {c w : Nat} {nm : Nat → Int64} (hc : c = 22 ∨ c = 24 ∨ c = 27 ∨ c = 29) (hl : IVl f c w) (h1 : S.1 c = f c) (h2 : S.1 (c + 1) = f (c + 1)) (h50 : ∀ i, i < 8 → S.2.1 50 i = nm i) : ∃ S', fX2_isTrue S c = some (gz (gLine f c nm), S') ∧ LE S S' := by
  obtain ⟨f1, -⟩ := form_cells hc S.2.2
  unfold fX2_isTrue gLine
  rw [if_pos f1, h1]
  rcases hl.2 with h0 | ⟨h0, N, n1, n2, n3, n4, n5⟩
  · rw [if_pos h0, if_pos h0, h50 3 (by omega), h50 2 (by omega), h50 1 (by omega), h50 0 (by omega)]
    unfold gDef
    by_cases c3 : nm 3 = 0
    · rw [if_pos ((lg_cmp_eq _ _).mpr c3), decide_eq_true c3]; exact ⟨S, rfl, LE.rf⟩
    · rw [if_neg (fun z => c3 ((lg_cmp_eq _ _).mp z)), decide_eq_false c3]
      by_cases c1 : nm 1 < nm 0
      · rw [if_pos ((lg_cmp_gt _ _).mpr c1), decide_eq_true c1]; exact ⟨S, rfl, LE.rf⟩
      · rw [if_neg (fun z => c1 ((lg_cmp_gt _ _).mp z)), decide_eq_false c1]
        by_cases c2 : nm 2 = 0
        · rw [if_pos ((lg_cmp_eq _ _).mpr c2), decide_eq_true c2]; exact ⟨S, rfl, LE.rf⟩
        · rw [if_neg (fun z => c2 ((lg_cmp_eq _ _).mp z)), decide_eq_false c2]; exact ⟨S, rfl, LE.rf⟩
  · have hz : ¬ f c 0 = 0 := by rw [h0]; decide
    rw [if_neg hz, if_neg hz, n2, nI_clamp (by omega)]
    simp only [glet_s]
    exact x_true44 (K := f (c + 1)) (SO := fun i => f 56 (64 * w + i)) (VA := fun i => f 57 (64 * w + i)) hc n4 n1 n5 N 0 FU S 0 (fun _ => 0) (by omega) (FU_gt (by omega)) h2 (by rw [h1]; exact n2) rfl rfl (fun j hj => absurd hj (Nat.not_lt_zero _)) h50

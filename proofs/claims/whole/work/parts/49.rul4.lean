/-! an operand: the step -/
def tokE (t : Nat) : Bool := decide (t = 0 ∨ t = 3 ∨ t = 5 ∨ t = 17 ∨ (20 ≤ t ∧ t ≤ 27)) || (decide (gSo t ≠ 1) && (decide (gSo t ≠ 0 ∨ (gVl t 0 < 6 ∧ gVl t 0 ≠ 5 ∧ 3 ≤ t)) && decide (gSo t ≠ 2 ∨ (gVl t 0 ≠ 40 ∧ 3 ≤ t))))
theorem tokE_all : ∀ t, t < 31 → tokE t = true := by decide +kernel
theorem tok_E (t : Nat) (h : t < 31) (h1 : 1 ≤ t) (h3 : t ≠ 3) (h5 : t ≠ 5) (h17 : t ≠ 17) (hn : ¬ (20 ≤ t ∧ t ≤ 27)) : gSo t ≠ 1 ∧ (gSo t = 0 → gVl t 0 < 6 ∧ gVl t 0 ≠ 5 ∧ 3 ≤ t) ∧ (gSo t = 2 → gVl t 0 ≠ 40 ∧ 3 ≤ t) := by
  have e := tokE_all t h
  unfold tokE at e
  rw [decide_eq_false (by omega), Bool.false_or, Bool.and_eq_true, Bool.and_eq_true, decide_eq_true_iff, decide_eq_true_iff, decide_eq_true_iff] at e
  exact ⟨e.1, fun z => e.2.1.resolve_left (fun y => y z), fun z => e.2.2.resolve_left (fun y => y z)⟩
theorem tok_N : ∀ t, t < 28 → 20 ≤ t → gSo t = 0 ∧ gVl t 0 = nI (t - 14) := by decide +kernel
theorem Wr.vx {S S' : GS} {u : Nat → Nat} {n q : Nat} (h : VwX S u n q) (e : S'.2 = S.2) (h2 : ∀ a b, (a = 32 ∨ a = 1) → S'.1 a b = S.1 a b) : VwX S' u n q := h.fr e (fun j => h2 _ _ (Or.inl rfl)) (fun j => h2 _ _ (Or.inr rfl))
theorem Wr.vm {S S' : GS} {u : Nat → Nat} {n q : Nat} (h : VwM S u n q) (h2 : ∀ a b, (a = 55 ∨ (a = 54 ∧ 13 ≤ b ∧ b ≤ 17)) → S'.1 a b = S.1 a b) : VwM S' u n q := h.fr (fun j h3 h4 => h2 _ _ (Or.inr ⟨rfl, h3, h4⟩)) (fun j => h2 _ _ (Or.inl rfl))
section
variable {Sx Sm : GS} {s f w z o c m q n : Nat} {u : Nat → Nat} {k : Nat → Nat} {K : Nat → Int32}
/-- a number or a name -/
theorem step_val {x a b : Int32} (hs : SF s f) (hw : w < 2) (hvx : VwX Sx u n q) (hvm : VwM Sm u n q) (hpx : PX Sx s f z k o c m K) (hmx : MX Sm w z k o c m K) (hp : PI z k o c m K 0) (ht : kTt u n q ≠ 1)
    (hx : fX6_isStillWantedBehind Sx f = fX6_isStillWantedBehind_106 Sx f (nI (kTt u n q))) (hxx : (kTt u n q = 3 ∧ Sx.1 32 5 = x) ∨ (kTt u n q ≠ 3 ∧ kTt u n q < 31 ∧ x = -(nI (kTt u n q)))) (hx0 : gOp x = 0) (hk : gKn x a b)
    (hm0 : ∀ S1, fX11_knot Sm = some ((), S1) → ¬ S1.1 54 18 = 0 → fX11_operand Sm = some (0, S1)) (hm1 : ∀ S1 S2 S3, fX11_knot Sm = some ((), S1) → S1.1 54 18 = 0 → S1.1 54 17 = Sm.1 54 17 → fX11_out S1 a b = some ((), S2) → fX11_next S2 = some ((), S3) → fX11_operand Sm = some (1, S3)) :
    ∃ Sx' Sm' r r', (∀ k20 a2 i, fX6_readFormula_62 k20 Sx f a2 1 (nI i) = k20 Sx' f a2 r (nI (i + 1))) ∧ fX11_operand Sm = some (r', Sm') ∧ Out s f w u n q Sx Sm Sx' Sm' r r' := by
  by_cases hc : c < 64
  · obtain ⟨hp1, hm⟩ := hp.oper hc hx0
    obtain ⟨x1, x2⟩ := xo_new (x := x) hs hpx
    obtain ⟨m1, m2, m3⟩ := mo_out hw hmx hm a b hk
    obtain ⟨n1, n2, n3⟩ := hs.n
    refine op_ok hs ht (hx.trans (xo_106 hs hpx hc hm x hxx)) (Wr.vx hvx rfl fun a b h => by rw [gsi_n (by omega), gsi_n (by omega), gsi_n (by omega)]) x1 x2 (fun S' hS => hm1 _ _ S' (m_knot1 hmx.2.2.2.2.1 hc) (by rw [gsi_n (by omega)]; exact hmx.1) (by rw [gsi_n (by omega)]) m1 hS) (Wr.vm hvm fun a b h => by rw [gsi_n (by omega), gsi_n (by omega), gsi_n (by omega), gsi_n (by omega)]) m2 m3 (Or.inr ⟨rfl, rfl, rfl⟩) hp1
  · have hc4 : c = 64 := by have := hp.2.2.2.2.1; omega
    exact op_fault (x := 2) (by decide) (by decide) hvx (hx.trans (xo_106f hs hvx hpx hc4 _)) (hm0 _ (m_knot0 hmx.1 (by rw [hmx.2.2.2.2.1, hc4]) hvm) (by rw [gsi_n (by omega), gsi_s]; decide))
theorem step_op (hs : SF s f) (hw : w < 2) (hvx : VwX Sx u n q) (hvm : VwM Sm u n q) (hpx : PX Sx s f z k o c m K) (hmx : MX Sm w z k o c m K) (hp : PI z k o c m K 0) :
    ∃ Sx' Sm' r r', (∀ k20 a2 i, fX6_readFormula_62 k20 Sx f a2 1 (nI i) = k20 Sx' f a2 r (nI (i + 1))) ∧ fX11_operand Sm = some (r', Sm') ∧ Out s f w u n q Sx Sm Sx' Sm' r r' := by
  have rng := (tok_rng (u := u) hvx.2.2.2.2).2.2.2.2.2
  have rng1 := rng.1
  have rng2 := rng.2.1
  have hz := hp.z72
  obtain ⟨n1, n2, n3⟩ := hs.n
  have hxt := hvx.2.1
  have hmt := hvm.2.1
  have eqt : ∀ j : Nat, j < 100 → (nI (kTt u n q) = nI j) = (kTt u n q = j) := fun j hj => propext (nI_eq (by omega) (by omega))
  have eq5 : (nI (kTt u n q) = (5 : Int32)) = (kTt u n q = 5) := eqt 5 (by decide)
  have eq17 : (nI (kTt u n q) = (17 : Int32)) = (kTt u n q = 17) := eqt 17 (by decide)
  have eq3 : (nI (kTt u n q) = (3 : Int32)) = (kTt u n q = 3) := eqt 3 (by decide)
  have lt20 : (nI (kTt u n q) < (20 : Int32)) = (kTt u n q < 20) := propext (nI_ltI (b := 20) (by omega) (by decide))
  have le27 : (nI (kTt u n q) ≤ (27 : Int32)) = (kTt u n q ≤ 27) := propext (nI_leI (b := 27) (by omega) (by decide))
  have x5 : kTt u n q ≠ 5 → kTt u n q ≠ 17 → fX6_isStillWantedBehind Sx f = fX6_isStillWantedBehind_55 Sx f (nI (kTt u n q)) := by
    intro h1 h2
    unfold fX6_isStillWantedBehind
    rw [hxt, glet_s]
    simp only [eq5, eq17]
    rw [if_neg h1, if_neg h2]
  have x98 : fX6_isStillWantedBehind_98 Sx = some (0, gsi (gsi Sx 31 0 (nI 1)) 31 1 (nI (kTp u n q))) := by
    unfold fX6_isStillWantedBehind_98
    rw [show (1 : Int32) = nI 1 from rfl, x_fail (a := 0) hpx.2.1 hvx 1, gbd_s]
  have m205 : fX11_operand_205 Sm = some (0, gsi (gsi Sm 54 18 (nI 1)) 54 19 (nI (kTp u n q))) := by
    unfold fX11_operand_205
    rw [show (1 : Int32) = nI 1 from rfl, m_wrong hmx.1 hvm 1, gbd_s]
  by_cases t3 : kTt u n q = 3
  · -- a number
    have hs1 : Sm.1 54 16 = 1 := by rw [hmt, t3]; rfl
    have hv1 : Sm.1 54 17 = nI (kTn u n q) := by rw [hvm.2.2.2 (by omega), t3]; rfl
    have hx5 := hvx.2.2.2.1 t3
    have hn9 : kTn u n q ≤ 99999 := gNv_le _ _ _ (Nat.le_refl _) (by decide)
    by_cases c9 : kTn u n q ≤ 9999
    · have e9 : nI (kTn u n q) ≤ (9999 : Int32) := nI_le (b := 9999) c9 (by decide)
      have op23 : fX11_operand Sm = fX11_operand_23 Sm := by
        unfold fX11_operand
        rw [if_pos hs1, hv1, if_pos e9]
      refine step_val (x := nI (kTn u n q)) (a := 0) (b := nI (kTn u n q)) hs hw hvx hvm hpx hmx hp (by omega) ?_ (Or.inl ⟨t3, hx5⟩) (op_A c9).1 (Or.inl ⟨kTn u n q, c9, rfl, rfl, rfl⟩) ?_ ?_
      · rw [x5 (by omega) (by omega)]
        unfold fX6_isStillWantedBehind_55 fX6_isStillWantedBehind_81
        simp only [eq3]
        rw [if_pos t3, hx5, if_pos e9, if_pos t3]
      · intro S1 h1 h2
        rw [op23]
        unfold fX11_operand_23 fX11_operand_34
        rw [if_pos hmx.1, h1, gbd_s, if_neg h2]
      · intro S1 S2 S3 h1 h2 h3 h4 h5
        rw [op23]
        unfold fX11_operand_23 fX11_operand_34
        rw [if_pos hmx.1, h1, gbd_s, if_pos h2, h3, hv1, h4, gbd_s, h5, gbd_s]
    · have e9 : ¬ nI (kTn u n q) ≤ (9999 : Int32) := nI_ge (a := 9999) (by omega) (by omega)
      refine op_fault (x := 2) (r := 0) (r' := 0) (by decide) (by decide) hvx ?_ ?_
      · rw [x5 (by omega) (by omega)]
        unfold fX6_isStillWantedBehind_55
        simp only [eq3]
        rw [if_pos t3, hx5, if_neg e9, show (2 : Int32) = nI 2 from rfl, x_fail (a := 0) hpx.2.1 hvx 2, gbd_s]
      · unfold fX11_operand
        rw [if_pos hs1, hv1, if_neg e9, show (2 : Int32) = nI 2 from rfl, m_wrong hmx.1 hvm 2, gbd_s]
        unfold fX11_operand_23 fX11_operand_34
        have ne : ¬ (gsi (gsi Sm 54 18 (nI 2)) 54 19 (nI (kTp u n q))).1 54 18 = 0 := by rw [gsi_n (by omega), gsi_s]; decide
        rw [if_neg ne, if_neg ne]
  by_cases tn : 20 ≤ kTt u n q ∧ kTt u n q ≤ 27
  · -- a name
    obtain ⟨s1, s2⟩ := tok_N _ (show kTt u n q < 28 by omega) tn.1
    have hv1 : Sm.1 54 17 = nI (kTt u n q - 14) := by rw [hvm.2.2.2 (by omega), gVl_ne t3 _ 0, s2]
    have hs1 : Sm.1 54 16 = 0 := by rw [hmt, s1]
    have e6 : ¬ nI (kTt u n q - 14) < (6 : Int32) := nI_nlt (b := 6) (by omega) (by omega)
    have es : nI (kTt u n q - 14) - (6 : Int32) = nI (kTt u n q - 20) := by
      show _ - nI 6 = _
      rw [pk_sub (by omega), show kTt u n q - 14 - 6 = kTt u n q - 20 by omega]
    have e20 : kTt u n q = 20 + (kTt u n q - 20) := by omega
    have opn : fX11_operand Sm = gbd (fX11_knot Sm) fun r5 S6 => (if (S6.1 54 18) = 0 then gbd (fX11_out S6 (1 : Int32) ((S6.1 54 17) - (6 : Int32))) fun r9 S10 => gbd (fX11_next S10) fun r12 S13 => (some ((1 : Int32), S13)) else (some ((0 : Int32), S6))) := by
      unfold fX11_operand
      rw [if_neg (show ¬ Sm.1 54 16 = 1 by rw [hs1]; decide), if_pos hs1, hv1, if_neg e6]
    refine step_val (x := -(nI (kTt u n q))) (a := 1) (b := nI (kTt u n q - 20)) hs hw hvx hvm hpx hmx hp (by omega) ?_ (Or.inr ⟨t3, by omega, rfl⟩) (by rw [e20]; exact (op_B (by omega)).1) (Or.inr (Or.inl ⟨kTt u n q - 20, by omega, by rw [← e20], rfl, rfl⟩)) ?_ ?_
    · rw [x5 (by omega) (by omega)]
      unfold fX6_isStillWantedBehind_55 fX6_isStillWantedBehind_81
      simp only [eq3, lt20, le27]
      rw [if_neg t3, if_neg t3, if_neg (by omega), if_pos tn.2]
    · intro S1 h1 h2
      rw [opn, h1, gbd_s, if_neg h2]
    · intro S1 S2 S3 h1 h2 h3 h4 h5
      rw [opn, h1, gbd_s, if_pos h2, h3, hv1, es, h4, gbd_s, h5, gbd_s]
  by_cases t5 : kTt u n q = 5
  · -- '('
    have hs2 : Sm.1 54 16 = 2 := by rw [hmt, t5]; rfl
    have hv2 : Sm.1 54 17 = 40 := by rw [hvm.2.2.2 (by omega), t5]; rfl
    have op : fX11_operand Sm = if (Sm.1 54 25) = (8 : Int32) then gbd (fX11_wrong Sm (2 : Int32)) fun r11 S12 => (fX11_operand_128 S12) else (fX11_operand_128 Sm) := by
      unfold fX11_operand fX11_operand_105 fX11_isSign
      rw [if_neg (show ¬ Sm.1 54 16 = 1 by rw [hs2]; decide), if_neg (show ¬ Sm.1 54 16 = 0 by rw [hs2]; decide), if_pos hs2, if_pos hv2, gbv_s, if_neg i10]
    by_cases ho : o < 8
    · obtain ⟨hp1, hz1⟩ := hp.push5 ho
      obtain ⟨x1, x2⟩ := xo_psh (S := Sx) (S1 := gsi Sx 31 6 (nI (o + 1))) (o' := o + 1) (c' := c) hs hz1 rfl (fun a b h1 h2 => gsi_n (by omega)) hpx gsi_s (by rw [gsi_n (by omega)]; exact hpx.2.2.2.2.2.1) (Wr.rf.si (by simp [wXf]) _) 5
      obtain ⟨m1, m2⟩ := mo_psh (S := Sm) (S1 := gsi Sm 54 25 (nI (o + 1))) (o' := o + 1) (c' := c) (fun a b h1 => gsi_n (by omega)) hmx gsi_s (by rw [gsi_n (by omega)]; exact hmx.2.2.2.2.1) (Wr.rf.si (by simp [wMf]) _) 5
      refine op_ok (r := 1) (r' := 0) hs (by omega) ?_ ?_ x1 x2 (fun S' hS => ?_) ?_ m1 m2 (Or.inl ⟨rfl, rfl, rfl⟩) hp1
      · unfold fX6_isStillWantedBehind fX6_openOne
        rw [hxt, glet_s]
        simp only [eq5]
        rw [if_pos t5, hpx.2.2.2.2.1, if_pos (show nI o < (8 : Int32) from nI_lt (b := 8) ho (by decide)), nI_1, glet_s, x_await (by rw [gsi_n (by omega)]; exact hpx.2.2.1) hz1, gbd_s, gbd_s]
        rfl
      · exact Wr.vx hvx rfl fun a b h => by rw [gsi_n (by omega), gsi_n (by omega), gsi_n (by omega)]
      · rw [op, hmx.2.2.2.1, if_neg (show ¬ nI o = (8 : Int32) from fun e => by have := (nI_eq (b := 8) (by omega) (by decide)).mp e; omega)]
        unfold fX11_operand_128
        rw [if_pos hmx.1, hmx.2.2.2.1, nI_1, glet_s, m_waits (a := 40) (by rw [gsi_n (by omega)]; exact hmx.2.1) (by omega) hS, gbd_s]
      · exact Wr.vm hvm fun a b h => by rw [gsi_n (by omega), gsi_n (by omega), gsi_n (by omega)]
    · have ho8 : o = 8 := by have := hp.2.2.1; omega
      refine op_fault (x := 2) (r := 1) (r' := 0) (by decide) (by decide) hvx ?_ ?_
      · unfold fX6_isStillWantedBehind fX6_openOne
        rw [hxt, glet_s]
        simp only [eq5]
        rw [if_pos t5, hpx.2.2.2.2.1, ho8, if_neg (show ¬ nI 8 < (8 : Int32) by decide), show (2 : Int32) = nI 2 from rfl, x_fail (a := 0) hpx.2.1 hvx 2, gbd_s, gbd_s]
      · rw [op, hmx.2.2.2.1, ho8, if_pos (show nI 8 = (8 : Int32) from rfl), show (2 : Int32) = nI 2 from rfl, m_wrong hmx.1 hvm 2, gbd_s]
        unfold fX11_operand_128
        rw [if_neg (show ¬ (gsi (gsi Sm 54 18 (nI 2)) 54 19 (nI (kTp u n q))).1 54 18 = 0 by rw [gsi_n (by omega), gsi_s]; decide)]
  by_cases t17 : kTt u n q = 17
  · -- not
    have hs2 : Sm.1 54 16 = 0 := by rw [hmt, t17]; rfl
    have hv2 : Sm.1 54 17 = 5 := by rw [hvm.2.2.2 (by omega), t17]; rfl
    have op : fX11_operand Sm = if (Sm.1 54 24) = 0 then (fX11_operand_185 Sm 1) else (if gib ((Sm.1 54 24) - (1 : Int32)) 96 = true then gbv (fX11_bind Sm (Sm.1 60 (((Sm.1 54 24) - (1 : Int32))).toNatClampNeg)) fun r7 => (if (4 : Int32) ≤ r7 then (fX11_operand_185 Sm (0 : Int32)) else (fX11_operand_185 Sm 1)) else none) := by
      unfold fX11_operand fX11_operand_105 fX11_isSign fX11_operand_180
      rw [if_neg (show ¬ Sm.1 54 16 = 1 by rw [hs2]; decide), if_pos hs2, hv2, if_pos (show (5 : Int32) < 6 by decide), if_neg (show ¬ Sm.1 54 16 = 2 by rw [hs2]; decide), gbv_s, if_pos rfl]
    have tops : (if z = 0 then 5 else k (z - 1)) < 31 := by
      by_cases e : z = 0
      · rw [if_pos e]; decide
      · rw [if_neg e]; have := hp.1 (z - 1) (by omega); omega
    have xop : fX6_isStillWantedBehind Sx f = if kSt (if z = 0 then 5 else k (z - 1)) ≤ 3 then (gbd (fX6_tieKnot Sx) fun r12 S13 => (if r12 = 0 then (some ((1 : Int32), S13)) else gbd (fX6_await S13 (17 : Int32)) fun r16 S17 => (some ((1 : Int32), S17)))) else fX6_isStillWantedBehind_98 Sx := by
      unfold fX6_isStillWantedBehind
      have h6 := kSt_le (if z = 0 then 5 else k (z - 1))
      have e17 : fX6_strengthOf Sx (17 : Int32) = some (nI 3) := x_str (t := 17) (by decide)
      rw [hxt, glet_s]
      simp only [eq5, eq17]
      rw [if_neg t5, if_pos t17, x_top hpx.2.2.1 hz hpx.2.2.2.1, gbv_s, x_str tops, gbv_s, e17, gbv_s]
      by_cases e : kSt (if z = 0 then 5 else k (z - 1)) ≤ 3
      · rw [if_neg (nI_nlt e (by decide)), if_pos e]
      · rw [if_pos (nI_lt (by omega) (by omega)), if_neg e]
        unfold fX6_isStillWantedBehind_55 fX6_isStillWantedBehind_81
        simp only [eq3, lt20]
        rw [if_neg t3, if_neg t3, if_pos (by omega)]
    have mop : fX11_operand Sm = if kSt (if z = 0 then 5 else k (z - 1)) ≤ 3 then fX11_operand_185 Sm 1 else fX11_operand_185 Sm 0 := by
      rw [op, hmx.2.1]
      by_cases e : z = 0
      · rw [if_pos (show nI z = 0 by rw [e]; rfl), if_pos e, if_pos (by decide)]
      · obtain ⟨y, rfl⟩ : ∃ y, z = y + 1 := ⟨z - 1, by omega⟩
        have hy := hp.1 y (by omega)
        have h6 := kSt_le (k y)
        rw [if_neg (nI_ne0 (by omega) (by omega)), nI_m1, if_pos (gib_nI (by omega) (by decide)), nI_clamp (by omega), hmx.2.2.1 y (by omega), m_bind (by omega) (by omega), gbv_s, if_neg e]
        show _ = if kSt (k y) ≤ 3 then _ else _
        by_cases e3 : kSt (k y) ≤ 3
        · rw [if_neg (show ¬ (4 : Int32) ≤ nI (kSt (k y)) from nI_ge (b := 4) (by omega) (by decide)), if_pos e3]
        · rw [if_pos (show (4 : Int32) ≤ nI (kSt (k y)) from nI_le (a := 4) (by omega) (by omega)), if_neg e3]
    by_cases hmay : kSt (if z = 0 then 5 else k (z - 1)) ≤ 3
    · rw [if_pos hmay] at xop mop
      have m185 : fX11_operand Sm = gbd (fX11_knot Sm) fun r5 S6 => (if (S6.1 54 18) = 0 then gbd (fX11_waits S6 (260 : Int32)) fun r9 S10 => (some ((0 : Int32), S10)) else (some ((0 : Int32), S6))) := by
        rw [mop]
        unfold fX11_operand_185
        rw [if_pos hs2, if_pos hv2, if_neg i10]
      by_cases hc : c < 64
      · obtain ⟨hp1, hz1⟩ := hp.pushN hc
        obtain ⟨x1, x2⟩ := xo_psh (S := Sx) (S1 := gsi Sx s 1 (nI (c + 1))) (o' := o) (c' := c + 1) hs hz1 rfl (fun a b h1 h2 => gsi_n (by omega)) hpx (by rw [gsi_n (by omega)]; exact hpx.2.2.2.2.1) gsi_s (Wr.rf.si (by simp [wXf]) _) 17
        obtain ⟨m1, m2⟩ := mo_psh (S := Sm) (S1 := gsi Sm 54 10 (nI (c + 1))) (o' := o) (c' := c + 1) (fun a b h1 => gsi_n (by omega)) hmx (by rw [gsi_n (by omega)]; exact hmx.2.2.2.1) gsi_s (Wr.rf.si (by simp [wMf]) _) 17
        refine op_ok (r := 1) (r' := 0) hs (by omega) ?_ ?_ x1 x2 (fun S' hS => ?_) ?_ m1 m2 (Or.inl ⟨rfl, rfl, rfl⟩) hp1
        · rw [xop, x_tie1 hs hpx.1 hpx.2.2.2.2.2.1 hc, gbd_s, if_neg i10, x_await (by rw [gsi_n (by omega)]; exact hpx.2.2.1) hz1, gbd_s]
          rfl
        · exact Wr.vx hvx rfl fun a b h => by rw [gsi_n (by omega), gsi_n (by omega), gsi_n (by omega)]
        · rw [m185, m_knot1 hmx.2.2.2.2.1 hc, gbd_s, gsi_n (by omega), if_pos hmx.1, m_waits (a := 260) (by rw [gsi_n (by omega)]; exact hmx.2.1) (by omega) hS, gbd_s]
        · exact Wr.vm hvm fun a b h => by rw [gsi_n (by omega), gsi_n (by omega), gsi_n (by omega)]
      · have hc4 : c = 64 := by have := hp.2.2.2.2.1; omega
        refine op_fault (x := 2) (r := 1) (r' := 0) (by decide) (by decide) hvx ?_ ?_
        · rw [xop, x_tie0 hs hpx.1 hpx.2.1 (by rw [hpx.2.2.2.2.2.1, hc4]) hvx, gbd_s, if_pos rfl]
        · rw [m185, m_knot0 hmx.1 (by rw [hmx.2.2.2.2.1, hc4]) hvm, gbd_s, if_neg (by rw [gsi_n (by omega), gsi_s]; decide)]
    · rw [if_neg hmay] at xop mop
      refine op_fault (x := 1) (r := 0) (r' := 0) (by decide) (by decide) hvx (xop.trans x98) ?_
      rw [mop]
      unfold fX11_operand_185
      rw [if_pos hs2, if_pos hv2, if_pos rfl, m205]
  · -- what can't stand there
    obtain ⟨g1, g2, g3⟩ := tok_E _ (show kTt u n q < 31 by omega) rng1 t3 t5 t17 tn
    refine op_fault (x := 1) (r := 0) (r' := 0) (by decide) (by decide) hvx ?_ ?_
    · rw [x5 t5 t17]
      unfold fX6_isStillWantedBehind_55 fX6_isStillWantedBehind_81
      simp only [eq3, lt20, le27]
      rw [if_neg t3, if_neg t3]
      by_cases e : kTt u n q < 20
      · rw [if_pos e, x98]
      · rw [if_neg e, if_neg (by omega), x98]
    · have h185 : ∀ t0, fX11_operand_185 Sm t0 = fX11_operand_205 Sm := by
        intro t0
        unfold fX11_operand_185
        by_cases e0 : Sm.1 54 16 = 0
        · have g := g2 (by rw [← hmt]; exact e0)
          rw [if_pos e0, if_neg (show ¬ Sm.1 54 17 = 5 by rw [hvm.2.2.2 g.2.2, gVl_ne t3 _ 0]; exact g.2.1)]
        · rw [if_neg e0]
      have h105 : fX11_operand_105 Sm = fX11_operand_205 Sm := by
        unfold fX11_operand_105 fX11_operand_180
        have es : fX11_isSign Sm 40 = some 0 := by
          unfold fX11_isSign
          by_cases e2 : Sm.1 54 16 = 2
          · have g := g3 (by rw [← hmt]; exact e2)
            rw [if_pos e2, if_neg (show ¬ Sm.1 54 17 = 40 by rw [hvm.2.2.2 g.2, gVl_ne t3 _ 0]; exact g.1)]
          · rw [if_neg e2]
        rw [es, gbv_s, if_pos rfl, h185, h185, hmx.2.1]
        by_cases e : z = 0
        · rw [if_pos (show nI z = 0 by rw [e]; rfl)]
        · obtain ⟨y, rfl⟩ : ∃ y, z = y + 1 := ⟨z - 1, by omega⟩
          have hy := hp.1 y (by omega)
          rw [if_neg (nI_ne0 (by omega) (by omega)), nI_m1, if_pos (gib_nI (by omega) (by decide)), nI_clamp (by omega), hmx.2.2.1 y (by omega), m_bind (by omega) (by omega), gbv_s]
          split <;> rfl
      unfold fX11_operand
      rw [if_neg (show ¬ Sm.1 54 16 = 1 by rw [hmt]; exact g1)]
      by_cases e0 : Sm.1 54 16 = 0
      · have g := g2 (by rw [← hmt]; exact e0)
        rw [if_pos e0, if_pos (show Sm.1 54 17 < 6 by rw [hvm.2.2.2 g.2.2, gVl_ne t3 _ 0]; exact g.1), h105, m205]
      · rw [if_neg e0, h105, m205]
end

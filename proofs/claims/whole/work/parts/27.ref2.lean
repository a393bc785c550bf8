/-! the reference: doubts, names, overruled, good, binding -/
/-- names as they can be -/
def gOkN (nm : Nat → Int64) : Prop := (∀ i, i < 8 → ∃ x : Int32, nm i = x.toInt64) ∧ (nm 2 = 0 ∨ nm 2 = 1) ∧ (nm 3 = 0 ∨ nm 3 = 1)
theorem gNm_ok {f : Nat → Nat → Int32} {c ct vt db : Nat} {age : Int32} : gOkN (gNm f c ct vt age db) := by
  have i1 : (1 : Int64) = (1 : Int32).toInt64 := by decide
  have i0 : (0 : Int64) = (0 : Int32).toInt64 := by decide
  have h2 : gNm f c ct vt age db 2 = if (f 8 c).toNatClampNeg = ct then 1 else 0 := rfl
  have h3 : gNm f c ct vt age db 3 = if f 4 (f 8 c).toNatClampNeg = f 4 ct then 1 else 0 := rfl
  refine ⟨fun i hi => ?_, ?_, ?_⟩
  · rcases (show i = 0 ∨ i = 1 ∨ i = 2 ∨ i = 3 ∨ i = 4 ∨ i = 5 ∨ i = 6 ∨ i = 7 by omega) with rfl | rfl | rfl | rfl | rfl | rfl | rfl | rfl
    · exact ⟨_, rfl⟩
    · exact ⟨_, rfl⟩
    · rw [h2]; split
      · exact ⟨1, i1⟩
      · exact ⟨0, i0⟩
    · rw [h3]; split
      · exact ⟨1, i1⟩
      · exact ⟨0, i0⟩
    · exact ⟨_, rfl⟩
    · exact ⟨_, rfl⟩
    · exact ⟨_, rfl⟩
    · exact ⟨_, rfl⟩
  · rw [h2]; split
    · exact Or.inr rfl
    · exact Or.inl rfl
  · rw [h3]; split
    · exact Or.inr rfl
    · exact Or.inl rfl
def MR (f : Nat → Nat → Int32) (t0 t1 : (Nat → Int64) → Bool) (en : Nat) : Prop := f 54 7 = nI en ∧ en < 10 ∧ ∀ (S : GS) (nm : Nat → Int64), (∀ c, 55 ≤ c → c ≤ 59 → S.1 c = f c) → gOkN nm → (∀ i, i < 8 → S.2.1 61 i = nm i) → (∃ S', fX11_holdsE S 0 = some (gz (t0 nm), S') ∧ ME S S') ∧ (∃ S', fX11_holdsE S 1 = some (gz (t1 nm), S') ∧ ME S S')
def CT.mx (X : CT) : Prop := MR X.f X.t0 X.t1 X.en
theorem ct_put {x : Int32} {d : Nat} (hd : d < 32) (h : bt x d = false) : fb_ct (bt (x ||| (1 : Int32) <<< (nI d &&& 31))) 32 = fb_ct (bt x) 32 + 1 := by
  have e1 : fb_ct (bt (x ||| (1 : Int32) <<< (nI d &&& 31))) 32 = fb_ct (fun k => if k = d then true else bt x k) 32 := fb_ct_cong (fun k hk => by
    rw [b_or, b_one hd hk]
    by_cases q : k = d
    · simp [q]
    · simp [q])
  have e2 := fb_ct_upd (bt x) true (i := d) (n := 32) hd
  rw [h] at e2
  simp only [Bool.false_eq_true, if_false, if_true, Nat.add_zero] at e2
  rw [e1, e2]
section
variable {X : CT} {T : Nat → Bool} {S S' S1 S2 : GS} {day : Int32} {e : Nat} {B : Nat → Nat → Bool}
theorem m_doubts (hX : X.ok) (hF : MF X S) (hM : MT X S) (hW : MW X T e S) {c p : Nat} (hc : c < X.nk) (hp : p < 12) : fX11_doubts S (nI c) (nI p) (nI e) = some (nI (gDb X.f X.cn X.ld X.nn T (X.u T) c p)) := by
  have hnn := hX.D.2.2.2.2.2.2.1
  have hnk := hX.D.2.2.2.1.2.2.1
  have he := hW.2.2
  unfold fX11_doubts
  simp only [glet_s]
  rw [show (0 : Int32) = nI 0 from rfl]
  refine up_any (fun n (a : Int32 × Int32) i => fX11_doubts_9 n S (nI c) (nI p) (nI e) a.1 a.2 i) X.nn (fun i a => (∀ d, d < 32 → bt a.1 d = gAny i (fun n => X.cn n && decide (X.f 15 n = 3) && decide ((X.f 18 n).toNatClampNeg = c) && decide ((X.f 17 n).toNatClampNeg = d) && decide (X.ld (X.f 19 n).toNatClampNeg = p) && (T d && !(X.u T d)))) ∧ a.2 = nI (fb_ct (bt a.1) 32)) (fun r => r = some (nI (gDb X.f X.cn X.ld X.nn T (X.u T) c p)))
    (fun n a h => ?_) (fun n i a hi h => Or.inr ?_) (nI 0, nI 0) ⟨fun d hd => (by rw [gAny_0]; exact b_0 d), (by show nI 0 = nI (fb_ct (bt 0) 32); rw [fb_ct_zero.mpr (fun d hd => b_0 d)])⟩ FU (FU_gt (by omega))
  · show fX11_doubts_9 (n + 1) S (nI c) (nI p) (nI e) a.1 a.2 (nI X.nn) = _
    rw [fX11_doubts_9, hF.nn hX, if_pos (nI_le (Nat.le_refl _) (by omega)), h.2]
    congr 2
    unfold gDb
    refine fb_ct_cong (fun d hd => ?_)
    rw [h.1 d hd]
    apply bool_iff
    unfold gTq
    simp only [gAny_iff, Bool.and_eq_true]
    constructor
    · rintro ⟨n, h1, ⟨⟨⟨⟨h2, h3⟩, h4⟩, h5⟩, h6⟩, h7, h8⟩
      exact ⟨⟨h7, h8⟩, n, h1, ⟨⟨⟨h2, h3⟩, h4⟩, h5⟩, h6⟩
    · rintro ⟨⟨h7, h8⟩, n, h1, ⟨⟨⟨h2, h3⟩, h4⟩, h5⟩, h6⟩
      exact ⟨n, h1, ⟨⟨⟨⟨h2, h3⟩, h4⟩, h5⟩, h6⟩, h7, h8⟩
  · show ∃ s' : Int32 × Int32, fX11_doubts_9 (n + 1) S (nI c) (nI p) (nI e) a.1 a.2 (nI i) = fX11_doubts_9 n S (nI c) (nI p) (nI e) s'.1 s'.2 (nI (i + 1)) ∧ _
    obtain ⟨hb, hn⟩ := h
    have keep : (∀ d, d < 32 → (X.cn i && decide (X.f 15 i = 3) && decide ((X.f 18 i).toNatClampNeg = c) && decide ((X.f 17 i).toNatClampNeg = d) && decide (X.ld (X.f 19 i).toNatClampNeg = p) && (T d && !(X.u T d))) = true → bt a.1 d = true) → ∀ d, d < 32 → bt a.1 d = gAny (i + 1) (fun n => X.cn n && decide (X.f 15 n = 3) && decide ((X.f 18 n).toNatClampNeg = c) && decide ((X.f 17 n).toNatClampNeg = d) && decide (X.ld (X.f 19 n).toNatClampNeg = p) && (T d && !(X.u T d))) := by
      intro hz d hd
      rw [gAny_s, ← hb d hd]
      cases hq : (X.cn i && decide (X.f 15 i = 3) && decide ((X.f 18 i).toNatClampNeg = c) && decide ((X.f 17 i).toNatClampNeg = d) && decide (X.ld (X.f 19 i).toNatClampNeg = p) && (T d && !(X.u T d)))
      · simp
      · rw [hz d hd hq]; rfl
    have skip : (∀ d, d < 32 → (X.cn i && decide (X.f 15 i = 3) && decide ((X.f 18 i).toNatClampNeg = c) && decide ((X.f 17 i).toNatClampNeg = d) && decide (X.ld (X.f 19 i).toNatClampNeg = p) && (T d && !(X.u T d))) = true → bt a.1 d = true) → ∃ s' : Int32 × Int32, fX11_doubts_9 n S (nI c) (nI p) (nI e) a.1 a.2 (nI (i + 1)) = fX11_doubts_9 n S (nI c) (nI p) (nI e) s'.1 s'.2 (nI (i + 1)) ∧ (∀ d, d < 32 → bt s'.1 d = gAny (i + 1) (fun n => X.cn n && decide (X.f 15 n = 3) && decide ((X.f 18 n).toNatClampNeg = c) && decide ((X.f 17 n).toNatClampNeg = d) && decide (X.ld (X.f 19 n).toNatClampNeg = p) && (T d && !(X.u T d)))) ∧ s'.2 = nI (fb_ct (bt s'.1) 32) :=
      fun hz => ⟨a, rfl, keep hz, hn⟩
    rw [fX11_doubts_9, hF.nn hX, if_neg (nI_ge hi (by omega)), if_pos (gib_nI (show i < 120 by omega) (by decide)), nI_clamp (show i < 2 ^ 31 by omega), hM.1 i hi, hF.kd hX hi]
    simp only [gz_0, glet_s, nI_1]
    cases hcn : X.cn i
    · rw [if_pos rfl]
      exact skip (fun d _ z => by simp [hcn] at z)
    rw [if_neg (by decide)]
    by_cases c0 : X.f 15 i = 3
    · rw [if_pos c0]
      have k1 : (1 : Int32) < X.f 15 i := by rw [c0]; decide
      have k4 : X.f 15 i ≤ 4 := by rw [c0]; decide
      have w := (hX.n1 hi).2.2.2.2.2.1 k1 k4
      have w2 := w.2.2.2.2.2.2.2 (by rw [c0]; decide)
      rw [hF.1 73 (by decide) (by decide), hF.1 74 (by decide) (by decide), hF.1 75 (by decide) (by decide), w.1, w.2.1, w2.1]
      simp only [eqI w.2.2.2.1 (show X.nk < 2 ^ 31 by omega) (show c < 2 ^ 31 by omega)]
      by_cases cc : (X.f 18 i).toNatClampNeg = c
      · obtain ⟨l1, l2⟩ := hM.lead hX w2.2 (show p < 2 ^ 31 by omega)
        rw [if_pos cc, if_pos l1]
        simp only [l2]
        by_cases cl : X.ld (X.f 19 i).toNatClampNeg = p
        · rw [if_pos cl, if_pos (gib_ge w.2.2.1 hnk)]
          obtain ⟨d1, d2⟩ := gib_all w.2.2.1 (by omega)
          have sd := hX.op i hi hcn k4
          obtain ⟨j, j1, j2, j3⟩ := hW.1 _ sd
          rw [j2]
          simp only [nI_leI (show e < 2 ^ 31 by omega) (show j < 2 ^ 31 by omega)]
          by_cases ce : e ≤ j
          · rw [if_pos ce]
            refine skip (fun d _ z => ?_)
            simp only [Bool.and_eq_true, decide_eq_true_eq] at z
            have : j < e := j3.mpr (by rw [z.1.1.2]; exact z.2.1)
            omega
          · rw [if_neg ce]
            have hT : T (X.f 17 i).toNatClampNeg = true := j3.mp (by omega)
            rw [(hW.2.1 _ hT).2]
            simp only [gz_0]
            cases hu : X.u T (X.f 17 i).toNatClampNeg
            · rw [if_pos rfl]
              generalize hdd : (X.f 17 i).toNatClampNeg = d at *
              rw [d2]
              simp only [b_tst a.1 (show d < 32 by omega)]
              by_cases cb : bt a.1 d = true
              · rw [if_pos cb]
                refine skip (fun d' _ z => ?_)
                simp only [Bool.and_eq_true, decide_eq_true_eq] at z
                rw [← z.1.1.2]; exact cb
              · rw [if_neg cb]
                refine ⟨(a.1 ||| 1 <<< (nI d &&& 31), a.2 + 1), rfl, fun d' hd' => ?_, ?_⟩
                · apply bool_iff
                  show bt (a.1 ||| 1 <<< (nI d &&& 31)) d' = true ↔ _
                  rw [b_put (show d < 32 by omega) hd', hb d' hd', gAny_s, Bool.or_eq_true]
                  refine or_congr Iff.rfl ⟨fun z => ?_, fun z => ?_⟩
                  · subst z; simp [hcn, c0, cc, cl, hT, hu, hdd]
                  · simp only [Bool.and_eq_true, decide_eq_true_eq] at z
                    rw [← z.1.1.2]; exact hdd
                · show a.2 + (1 : Int32) = nI (fb_ct (bt (a.1 ||| 1 <<< (nI d &&& 31))) 32)
                  rw [ct_put (show d < 32 by omega) (by simpa using cb), hn, nI_1]
            · rw [if_neg (by decide)]
              refine skip (fun d _ z => ?_)
              simp only [Bool.and_eq_true, decide_eq_true_eq] at z
              rw [← z.1.1.2, hu] at z
              simp at z
        · rw [if_neg cl]; exact skip (fun d _ z => by simp [cl] at z)
      · rw [if_neg cc]; exact skip (fun d _ z => by simp [cc] at z)
    · rw [if_neg c0]; exact skip (fun d _ z => by simp [c0] at z)
theorem m_name (hX : X.ok) (hF : MF X S) {c ct vt db : Nat} {age : Int32} (hc : c < X.nk) (hct : ct < X.nc) : ∃ S', fX11_name S (nI c) (nI ct) (nI vt) age (nI db) = some ((), S') ∧ ME S S' ∧ ∀ i, i < 8 → S'.2.1 61 i = gNm X.f c ct vt age db i := by
  have hnk := hX.D.2.2.2.1.2.2.1
  have hnc := hX.D.2.1.2.2.1
  have w := hX.D.2.2.2.1.2.2.2.1 c hc
  obtain ⟨o, ho, eo⟩ := gib_ex w.2.2.2.2.2.1 (by omega)
  have ec : (nI c).toNatClampNeg = c := nI_clamp (by omega)
  have eo2 : (nI o).toNatClampNeg = o := nI_clamp (by omega)
  have ect : (nI ct).toNatClampNeg = ct := nI_clamp (by omega)
  have g32 : gib (nI c) 32 = true := gib_nI (by omega) (by decide)
  have g6 : gib (nI o) 6 = true := gib_nI (by omega) (by decide)
  have g6b : gib (nI ct) 6 = true := gib_nI (by omega) (by decide)
  have r63 : ∀ i, i < X.nc → S.1 63 i = X.f 3 i := fun i h => by rw [hF.1 63 (by decide) (by decide)]; exact (hX.D.2.1.2.2.2 i h).1
  have r64 : ∀ i, i < X.nc → S.1 64 i = X.f 4 i := fun i h => by rw [hF.1 64 (by decide) (by decide)]; exact (hX.D.2.1.2.2.2 i h).2.1
  have r66 : S.1 66 c = nI o := by rw [hF.1 66 (by decide) (by decide), w.1, eo]
  have r68 : S.1 68 c = X.f 10 c := by rw [hF.1 68 (by decide) (by decide), w.2.2.1]
  obtain ⟨sm, hsm⟩ : ∃ sm : Int64, sm = if o = ct then 1 else 0 := ⟨_, rfl⟩
  obtain ⟨ln, hln⟩ : ∃ ln : Int64, ln = if X.f 4 o = X.f 4 ct then 1 else 0 := ⟨_, rfl⟩
  refine ⟨gsl (gsl (gsl (gsl (gsl (gsl (gsl (gsl S 61 0 (X.f 3 o).toInt64) 61 1 (X.f 3 ct).toInt64) 61 2 sm) 61 3 ln) 61 4 (X.f 10 c).toInt64) 61 5 (nI vt).toInt64) 61 6 age.toInt64) 61 7 (nI db).toInt64, ?_, (((((((ME.rf.sl _ _ _).sl _ _ _).sl _ _ _).sl _ _ _).sl _ _ _).sl _ _ _).sl _ _ _).sl _ _ _, ?_⟩
  · have e81 : ∀ (S2 : GS) (t : Int32) (l : Int64), S2.1 = S.1 → (l = if t = 0 then 0 else 1) → fX11_name_81 S2 t (nI c) (nI vt) age (nI db) = some ((), gsl (gsl (gsl (gsl (gsl S2 61 3 l) 61 4 (X.f 10 c).toInt64) 61 5 (nI vt).toInt64) 61 6 age.toInt64) 61 7 (nI db).toInt64) := by
      intro S2 t l hS2 hl
      have i1 : fX11_is S2 t = some l := by
        unfold fX11_is
        rw [hl]
        by_cases q : t = 0
        · rw [if_pos q, if_pos q]
        · rw [if_neg q, if_neg q]
      unfold fX11_name_81
      rw [i1, gbv_s, glet_s, if_pos g32, ec]
      have : (gsl S2 61 3 l).1 68 c = X.f 10 c := by show S2.1 68 c = _; rw [hS2, r68]
      rw [this]
      simp only [glet_s]
    have e51 : ∀ (S2 : GS) (t : Int32) (l : Int64), S2.1 = S.1 → (l = if t = 0 then 0 else 1) → fX11_name_51 S2 t (nI c) (nI ct) (nI vt) age (nI db) (nI o) = some ((), gsl (gsl (gsl (gsl (gsl (gsl S2 61 2 l) 61 3 ln) 61 4 (X.f 10 c).toInt64) 61 5 (nI vt).toInt64) 61 6 age.toInt64) 61 7 (nI db).toInt64) := by
      intro S2 t l hS2 hl
      have i1 : fX11_is S2 t = some l := by
        unfold fX11_is
        rw [hl]
        by_cases q : t = 0
        · rw [if_pos q, if_pos q]
        · rw [if_neg q, if_neg q]
      unfold fX11_name_51
      rw [i1, gbv_s, glet_s, if_pos g6, if_pos g6b, eo2, ect]
      have q1 : (gsl S2 61 2 l).1 64 o = X.f 4 o := by show S2.1 64 o = _; rw [hS2, r64 o ho]
      have q2 : (gsl S2 61 2 l).1 64 ct = X.f 4 ct := by show S2.1 64 ct = _; rw [hS2, r64 ct hct]
      rw [q1, q2]
      by_cases cl : X.f 4 o = X.f 4 ct
      · rw [if_pos cl, e81 (gsl S2 61 2 l) 1 ln hS2 (by rw [hln, if_pos cl]; rfl)]
      · rw [if_neg cl, e81 (gsl S2 61 2 l) 0 ln hS2 (by rw [hln, if_neg cl]; rfl)]
    unfold fX11_name
    rw [if_pos g32, ec, r66, glet_s, if_pos g6, eo2, r63 o ho, glet_s, if_pos g6b, ect]
    have q1 : (gsl S 61 0 (X.f 3 o).toInt64).1 63 ct = X.f 3 ct := by show S.1 63 ct = _; rw [r63 ct hct]
    rw [q1, glet_s]
    simp only [nI_eq (show o < 2 ^ 31 by omega) (show ct < 2 ^ 31 by omega)]
    by_cases cs : o = ct
    · rw [if_pos cs, e51 (gsl (gsl S 61 0 (X.f 3 o).toInt64) 61 1 (X.f 3 ct).toInt64) 1 sm rfl (by rw [hsm, if_pos cs]; rfl)]
    · rw [if_neg cs, e51 (gsl (gsl S 61 0 (X.f 3 o).toInt64) 61 1 (X.f 3 ct).toInt64) 0 sm rfl (by rw [hsm, if_neg cs]; rfl)]
  · intro i hi
    have eo3 : (X.f 8 c).toNatClampNeg = o := by rw [eo, eo2]
    rcases (show i = 0 ∨ i = 1 ∨ i = 2 ∨ i = 3 ∨ i = 4 ∨ i = 5 ∨ i = 6 ∨ i = 7 by omega) with rfl | rfl | rfl | rfl | rfl | rfl | rfl | rfl <;> simp [gsl, gNm, eo3, hsm, hln]
theorem MF.asks (hF : MF X S) : ∀ c, 55 ≤ c → c ≤ 59 → S.1 c = X.f c := fun c a b => hF.1 c a (by omega)
theorem m_over (hX : X.ok) (hR : X.mx) (hF : MF X S) (hM : MT X S) (hW : MW X T e S) {c p : Nat} (hc : c < X.nk) (hp : p < 12) : ∃ S', fX11_isOverruled S (nI c) (nI p) (nI e) = some (gz (gOv X.f X.cn X.ld X.nn T (X.u T) X.t1 c p), S') ∧ ME S S' := by
  have hnn := hX.D.2.2.2.2.2.2.1
  have hnk := hX.D.2.2.2.1.2.2.1
  have hnc := hX.D.2.1.2.2.1
  have he := hW.2.2
  obtain ⟨o, ho, eo⟩ := gib_ex (hX.D.2.2.2.1.2.2.2.1 c hc).2.2.2.2.2.1 (by omega)
  have eo3 : (X.f 8 c).toNatClampNeg = o := by rw [eo, nI_clamp (by omega)]
  unfold fX11_isOverruled
  simp only [glet_s]
  refine up_any (fun n (S1 : GS) i => fX11_isOverruled_3 n S1 (nI c) (nI p) (nI e) i) X.nn (fun i S1 => ME S S1 ∧ ∀ n, n < i → ∀ d, (X.cn n && decide (X.f 15 n = 2) && decide ((X.f 18 n).toNatClampNeg = c) && decide ((X.f 17 n).toNatClampNeg = d) && decide (X.ld (X.f 19 n).toNatClampNeg = p)) = true → T d = true → X.u T d = false → X.t1 (gNm X.f d o (gVt X.f X.cn X.ld X.nn d p (X.f 11 d)) (X.f 9 d - X.f 9 c) (gDb X.f X.cn X.ld X.nn T (X.u T) c p)) = false) (fun r => ∃ S', r = some (gz (gOv X.f X.cn X.ld X.nn T (X.u T) X.t1 c p), S') ∧ ME S S')
    (fun n S1 h => ?_) (fun n i S1 hi h => ?_) S ⟨ME.rf, fun n hn => absurd hn (Nat.not_lt_zero _)⟩ FU (FU_gt (by omega))
  · show ∃ S', fX11_isOverruled_3 (n + 1) S1 (nI c) (nI p) (nI e) (nI X.nn) = _ ∧ _
    rw [fX11_isOverruled_3, (hF.me h.1).nn hX, if_pos (nI_le (Nat.le_refl _) (by omega))]
    refine ⟨S1, ?_, h.1⟩
    have : gOv X.f X.cn X.ld X.nn T (X.u T) X.t1 c p = false := by
      apply gAny_f
      intro d hd
      cases hT : T d
      · rfl
      · cases hu : X.u T d
        · cases hq : gTq X.f X.cn X.ld X.nn 2 c p d
          · rfl
          · obtain ⟨n, n1, n2⟩ := gAny_iff.mp hq
            rw [eo3, h.2 n n1 d n2 hT hu]; rfl
        · rfl
    rw [this]; rfl
  · show (∃ S', fX11_isOverruled_3 (n + 1) S1 (nI c) (nI p) (nI e) (nI i) = _ ∧ _) ∨ ∃ s', fX11_isOverruled_3 (n + 1) S1 (nI c) (nI p) (nI e) (nI i) = fX11_isOverruled_3 n s' (nI c) (nI p) (nI e) (nI (i + 1)) ∧ _
    obtain ⟨hE, hno⟩ := h
    have hF1 := hF.me hE
    have hM1 := hM.me hE
    have hW1 := hW.me hE
    have next : ∀ S2, ME S S2 → (∀ d, (X.cn i && decide (X.f 15 i = 2) && decide ((X.f 18 i).toNatClampNeg = c) && decide ((X.f 17 i).toNatClampNeg = d) && decide (X.ld (X.f 19 i).toNatClampNeg = p)) = true → T d = true → X.u T d = false → X.t1 (gNm X.f d o (gVt X.f X.cn X.ld X.nn d p (X.f 11 d)) (X.f 9 d - X.f 9 c) (gDb X.f X.cn X.ld X.nn T (X.u T) c p)) = false) →
        (∃ S', fX11_isOverruled_3 n S2 (nI c) (nI p) (nI e) (nI (i + 1)) = some (gz (gOv X.f X.cn X.ld X.nn T (X.u T) X.t1 c p), S') ∧ ME S S') ∨ ∃ s', fX11_isOverruled_3 n S2 (nI c) (nI p) (nI e) (nI (i + 1)) = fX11_isOverruled_3 n s' (nI c) (nI p) (nI e) (nI (i + 1)) ∧ ME S s' ∧ ∀ n, n < i + 1 → ∀ d, (X.cn n && decide (X.f 15 n = 2) && decide ((X.f 18 n).toNatClampNeg = c) && decide ((X.f 17 n).toNatClampNeg = d) && decide (X.ld (X.f 19 n).toNatClampNeg = p)) = true → T d = true → X.u T d = false → X.t1 (gNm X.f d o (gVt X.f X.cn X.ld X.nn d p (X.f 11 d)) (X.f 9 d - X.f 9 c) (gDb X.f X.cn X.ld X.nn T (X.u T) c p)) = false := by
      intro S2 h2 hz
      refine Or.inr ⟨S2, rfl, h2, fun m hm d => ?_⟩
      by_cases q : m = i
      · subst q; exact hz d
      · exact hno m (by omega) d
    rw [fX11_isOverruled_3, hF1.nn hX, if_neg (nI_ge hi (by omega)), if_pos (gib_nI (show i < 120 by omega) (by decide)), nI_clamp (show i < 2 ^ 31 by omega), hM1.1 i hi, hF1.kd hX hi]
    simp only [gz_0, glet_s, nI_1]
    cases hcn : X.cn i
    · rw [if_pos rfl]
      exact next S1 hE (fun d z => by simp [hcn] at z)
    rw [if_neg (by decide)]
    by_cases c0 : X.f 15 i = 2
    · rw [if_pos c0]
      have k1 : (1 : Int32) < X.f 15 i := by rw [c0]; decide
      have k4 : X.f 15 i ≤ 4 := by rw [c0]; decide
      have w := (hX.n1 hi).2.2.2.2.2.1 k1 k4
      have w2 := w.2.2.2.2.2.2.2 (by rw [c0]; decide)
      rw [hF1.1 73 (by decide) (by decide), hF1.1 74 (by decide) (by decide), hF1.1 75 (by decide) (by decide), w.1, w.2.1, w2.1]
      simp only [eqI w.2.2.2.1 (show X.nk < 2 ^ 31 by omega) (show c < 2 ^ 31 by omega)]
      by_cases cc : (X.f 18 i).toNatClampNeg = c
      · obtain ⟨l1, l2⟩ := hM1.lead hX w2.2 (show p < 2 ^ 31 by omega)
        rw [if_pos cc, if_pos l1]
        simp only [l2]
        by_cases cl : X.ld (X.f 19 i).toNatClampNeg = p
        · rw [if_pos cl, if_pos (gib_ge w.2.2.1 hnk)]
          obtain ⟨d1, d2⟩ := gib_all w.2.2.1 (by omega)
          have sd := hX.op i hi hcn k4
          obtain ⟨j, j1, j2, j3⟩ := hW1.1 _ sd
          rw [j2]
          simp only [nI_leI (show e < 2 ^ 31 by omega) (show j < 2 ^ 31 by omega)]
          by_cases ce : e ≤ j
          · rw [if_pos ce]
            refine next S1 hE (fun d z hT => ?_)
            simp only [Bool.and_eq_true, decide_eq_true_eq] at z
            have : j < e := j3.mpr (by rw [z.1.2]; exact hT)
            omega
          · rw [if_neg ce]
            have hT : T (X.f 17 i).toNatClampNeg = true := j3.mp (by omega)
            rw [(hW1.2.1 _ hT).2]
            simp only [gz_0]
            cases hu : X.u T (X.f 17 i).toNatClampNeg
            · rw [if_pos rfl, if_pos (gib_nI (show c < 32 by omega) (by decide)), nI_clamp (show c < 2 ^ 31 by omega)]
              generalize hdd : (X.f 17 i).toNatClampNeg = d at *
              have wd := hX.D.2.2.2.1.2.2.2.1 d d1
              have wc := hX.D.2.2.2.1.2.2.2.1 c hc
              rw [hF1.1 69 (by decide) (by decide), hF1.1 67 (by decide) (by decide), hF1.1 66 (by decide) (by decide), wd.2.2.2.1, wd.2.1, wc.2.1, wc.1, eo, d2, m_votes hX hF1 hM1 d1 hp, gbv_s, m_doubts hX hF1 hM1 hW1 hc hp, gbv_s]
              obtain ⟨S2, b1, b2, b3⟩ := m_name (vt := gVt X.f X.cn X.ld X.nn d p (X.f 11 d)) (db := gDb X.f X.cn X.ld X.nn T (X.u T) c p) (age := X.f 9 d - X.f 9 c) hX hF1 d1 ho
              rw [b1, gbd_s]
              have hE2 := hE.tr b2
              obtain ⟨-, ⟨S3, g1, g2⟩⟩ := hR.2.2 S2 _ (hF.me hE2).asks gNm_ok b3
              rw [g1, gbd_s]
              simp only [gz_0]
              cases ht : X.t1 (gNm X.f d o (gVt X.f X.cn X.ld X.nn d p (X.f 11 d)) (X.f 9 d - X.f 9 c) (gDb X.f X.cn X.ld X.nn T (X.u T) c p))
              · rw [if_pos rfl]
                refine next S3 (hE2.tr g2) (fun d' z _ _ => ?_)
                simp only [Bool.and_eq_true, decide_eq_true_eq] at z
                rw [← z.1.2]; exact ht
              · rw [if_neg (by decide)]
                left
                refine ⟨S3, ?_, hE2.tr g2⟩
                have : gOv X.f X.cn X.ld X.nn T (X.u T) X.t1 c p = true := by
                  refine gAny_iff.mpr ⟨d, by omega, ?_⟩
                  rw [eo3, ht]
                  have : gTq X.f X.cn X.ld X.nn 2 c p d = true := gAny_iff.mpr ⟨i, hi, by simp [hcn, c0, cc, cl, hdd]⟩
                  simp [hT, hu, this]
                rw [this]; rfl
            · rw [if_neg (by decide)]
              refine next S1 hE (fun d z _ hud => ?_)
              simp only [Bool.and_eq_true, decide_eq_true_eq] at z
              rw [z.1.2, hud] at hu; cases hu
        · rw [if_neg cl]; exact next S1 hE (fun d z => by simp [cl] at z)
      · rw [if_neg cc]; exact next S1 hE (fun d z => by simp [cc] at z)
    · rw [if_neg c0]; exact next S1 hE (fun d z => by simp [c0] at z)
theorem m_binding (hX : X.ok) (hR : X.mx) (hF : MF X S) (hM : MT X S) (hW : MW X T e S) {c p ct : Nat} {F : Int32} (hc : c < X.nk) (hp : p < 12) (hct : ct < X.nc) : ∃ S', fX11_isBinding S (nI c) (nI p) (nI ct) F (nI e) day = some (gz (gBd X.f X.cn X.ld X.nn T (X.u T) X.t0 day c p ct F), S') ∧ ME S S' := by
  have hnk := hX.D.2.2.2.1.2.2.1
  unfold fX11_isBinding
  have wc := hX.D.2.2.2.1.2.2.2.1 c hc
  rw [m_votes hX hF hM hc hp, gbv_s, if_pos (gib_nI (show c < 32 by omega) (by decide)), nI_clamp (by omega), m_doubts hX hF hM hW hc hp, gbv_s, hF.1 67 (by decide) (by decide), wc.2.1]
  obtain ⟨S2, b1, b2, b3⟩ := m_name (vt := gVt X.f X.cn X.ld X.nn c p F) (db := gDb X.f X.cn X.ld X.nn T (X.u T) c p) (age := day - X.f 9 c) hX hF hc hct
  rw [b1, gbd_s]
  obtain ⟨⟨S3, g1, g2⟩, -⟩ := hR.2.2 S2 _ (hF.me b2).asks gNm_ok b3
  rw [g1, gbd_s, if_pos (gzb _)]
  exact ⟨S3, rfl, b2.tr g2⟩
/-- in good standing -/
noncomputable def CT.gd (X : CT) (T : Nat → Bool) (B : Nat → Nat → Bool) (day : Int32) (c p : Nat) (F : Int32) : Bool := !(X.u T c) && !(B c p) && gHe X.f X.cn X.ld X.nn c p F && !(gOv X.f X.cn X.ld X.nn T (X.u T) X.t1 c p) && !(gTk X.f X.cn X.ld X.nn c p day)
theorem m_good (hX : X.ok) (hR : X.mx) (hF : MF X S) (hM : MT X S) (hW : MW X T e S) {c p : Nat} {F : Int32} (hc : T c = true) (hp : p < 12) (hB : bt (S.1 83 c) p = B c p) : ∃ S', fX11_isGood S (nI c) (nI p) F (nI e) day = some (gz (X.gd T B day c p F), S') ∧ ME S S' := by
  have hnk := hX.D.2.2.2.1.2.2.1
  have hcn := hX.sn_lt c (hW.2.1 c hc).1
  unfold fX11_isGood CT.gd
  rw [if_pos (gib_nI (show c < 32 by omega) (by decide)), nI_clamp (by omega), (hW.2.1 c hc).2]
  simp only [gz_0, b_tst0 _ (show p < 32 by omega), hB]
  cases hu : X.u T c
  · rw [if_pos rfl]
    cases hb : B c p
    · rw [if_pos rfl, m_held hX hF hM hcn hp, gbv_s]
      simp only [gz_0]
      cases hh : gHe X.f X.cn X.ld X.nn c p F
      · rw [if_pos rfl]; exact ⟨S, rfl, ME.rf⟩
      · rw [if_neg (by decide)]
        obtain ⟨S1, a1, a2⟩ := m_over hX hR hF hM hW hcn hp
        rw [a1, gbd_s]
        simp only [gz_0]
        cases ho : gOv X.f X.cn X.ld X.nn T (X.u T) X.t1 c p
        · rw [if_pos rfl, m_taken hX (hF.me a2) (hM.me a2) hcn hp, gbv_s]
          simp only [gz_0]
          cases ht : gTk X.f X.cn X.ld X.nn c p day
          · rw [if_pos rfl]; exact ⟨S1, rfl, a2⟩
          · rw [if_neg (by decide)]; exact ⟨S1, rfl, a2⟩
        · rw [if_neg (by decide)]; exact ⟨S1, rfl, a2⟩
    · rw [if_neg (by decide)]; exact ⟨S, rfl, ME.rf⟩
  · rw [if_neg (by decide)]; exact ⟨S, rfl, ME.rf⟩
theorem CT.wt_2 {p ct d : Nat} {F : Int32} (hd : T d = true) : decide (2 ≤ X.wt T B day p ct F d) = (X.gd T B day d p F && gBd X.f X.cn X.ld X.nn T (X.u T) X.t0 day d p ct F) := by
  unfold CT.wt CT.gd gWt
  have hsk := he_sk (f := X.f) (cn := X.cn) (ld := X.ld) (nn := X.nn) (c := d) (p := p) (F := F)
  rw [hd]
  cases hu : X.u T d <;> cases hb : B d p <;> cases hh : gHe X.f X.cn X.ld X.nn d p F <;> cases ho : gOv X.f X.cn X.ld X.nn T (X.u T) X.t1 d p <;> cases ht : gTk X.f X.cn X.ld X.nn d p day <;> cases hs : gSk X.f X.cn X.ld X.nn d p F <;> cases hg : gBd X.f X.cn X.ld X.nn T (X.u T) X.t0 day d p ct F <;> simp [hh, hs] at hsk ⊢ <;> split <;> omega
end

/-! an operand on both sides -/
def psh (k : Nat → Nat) (z t : Nat) : Nat → Nat := fun i => if i = z then t else k i
theorem psh_s (k : Nat → Nat) (z t : Nat) : psh k z t z = t := if_pos rfl
theorem psh_n {k : Nat → Nat} {z t i : Nat} (h : i ≠ z) : psh k z t i = k i := if_neg h
theorem cn_psh (p : Nat → Bool) (k : Nat → Nat) (z t : Nat) : cn p (psh k z t) (z + 1) = cn p k z + (if p t = true then 1 else 0) := by
  rw [cn, psh_s, cn_cg z (fun i hi => psh_n (show i ≠ z by omega))]
theorem okS_psh {k : Nat → Nat} {z t : Nat} (h : okS k z) (ht : t = 5 ∨ (7 ≤ t ∧ t ≤ 19)) : okS (psh k z t) (z + 1) := by
  intro i hi
  by_cases e : i = z
  · rw [e, psh_s]; exact ht
  · rw [psh_n e]; exact h i (by omega)
section
variable {z o c m : Nat} {k : Nat → Nat} {K : Nat → Int32} {t b : Nat}
theorem PI.z72 (h : PI z k o c m K b) : z ≤ 72 := by
  obtain ⟨h1, h2, h3, h4, h5, h6⟩ := h
  have := cn_sum k z
  omega
theorem PI.push5 (h : PI z k o c m K 0) (ho : o < 8) : PI (z + 1) (psh k z 5) (o + 1) c m K 0 ∧ z < 72 := by
  obtain ⟨h1, h2, h3, h4, h5, h6⟩ := h
  have := cn_sum k z
  refine ⟨⟨okS_psh h1 (Or.inl rfl), ?_, by omega, ?_, h5, ?_⟩, by omega⟩
  · rw [cn_psh, h2]; rfl
  · rw [cn_psh]; exact h4
  · rw [cn_psh]; exact h6
theorem PI.pushN (h : PI z k o c m K 0) (hc : c < 64) : PI (z + 1) (psh k z 17) o (c + 1) m K 0 ∧ z < 72 := by
  obtain ⟨h1, h2, h3, h4, h5, h6⟩ := h
  have := cn_sum k z
  refine ⟨⟨okS_psh h1 (Or.inr (by decide)), ?_, by omega, ?_, by omega, ?_⟩, by omega⟩
  · rw [cn_psh]; exact h2
  · rw [cn_psh, if_pos (by decide)]; omega
  · rw [cn_psh]; exact h6
theorem PI.pushB (h : PI z k o c m K 1) (hc : c < 64) (h7 : 7 ≤ t) (h19 : t ≤ 19) (hn : t ≠ 17) : PI (z + 1) (psh k z t) o (c + 1) m K 0 ∧ z < 72 := by
  obtain ⟨h1, h2, h3, h4, h5, h6⟩ := h
  have := cn_sum k z
  have h5' : t ≠ 5 := by omega
  refine ⟨⟨okS_psh h1 (Or.inr ⟨h7, h19⟩), ?_, by omega, ?_, by omega, ?_⟩, by omega⟩
  · rw [cn_psh, if_neg (by simp [is5, h5'])]; exact h2
  · rw [cn_psh, if_pos (by simp [isN, h5'])]; omega
  · rw [cn_psh, if_pos (by simp [isB, h5', hn])]; exact h6
theorem PI.oper {x : Int32} (h : PI z k o c m K 0) (hc : c < 64) (hx : gOp x = 0) : PI z k o (c + 1) (m + 1) (upd K m x) 1 ∧ m < 64 := by
  obtain ⟨h1, h2, h3, h4, h5, h6⟩ := h
  exact ⟨⟨h1, h2, h3, by omega, by omega, ht0 hx h6⟩, by omega⟩
theorem PI.pop5 (h : PI (z + 1) k o c m K 1) (hk : k z = 5) : PI z k (o - 1) c m K 1 ∧ 1 ≤ o := by
  obtain ⟨h1, h2, h3, h4, h5, h6⟩ := h
  rw [cn, hk, if_pos (by decide)] at h2
  rw [cn, hk, if_neg (by decide)] at h4
  rw [cn, hk, if_neg (by decide)] at h6
  exact ⟨⟨fun i hi => h1 i (by omega), by omega, by omega, h4, h5, h6⟩, by omega⟩
end
section
variable {S : GS} {s f w z o c m q n t : Nat} {u : Nat → Nat} {k : Nat → Nat} {K : Nat → Int32}
theorem m_waits (h : S.1 54 24 = nI z) (hz : z < 96) {a : Int32} {S' : GS} (hn : fX11_next (gsi (gsi S 60 z a) 54 24 (nI (z + 1))) = some ((), S')) : fX11_waits S a = some ((), S') := by
  unfold fX11_waits
  rw [h, if_pos (gib_nI hz (by decide)), nI_clamp (by omega), glet_s, gsi_n (by omega), h, glet_s, nI_1, hn, gbd_s]
theorem xo_106 (hs : SF s f) (hpx : PX S s f z k o c m K) (hc : c < 64) (hm : m < 64) (x : Int32) (hx : (t = 3 ∧ S.1 32 5 = x) ∨ (t ≠ 3 ∧ t < 31 ∧ x = -(nI t))) : fX6_isStillWantedBehind_106 S f (nI t) = some (0, gsi (gsi (gsi S s 1 (nI (c + 1))) (f + 1) m x) f 1 (nI (m + 1))) := by
  obtain ⟨p1, p2, p3, p4, p5, p6, p7, p8⟩ := hpx
  obtain ⟨n1, n2, n3⟩ := hs.n
  unfold fX6_isStillWantedBehind_106
  rw [x_tie1 hs p1 p6 hc, gbd_s, if_neg i10]
  have ad : fX6_isStillWantedBehind_131 (gsi S s 1 (nI (c + 1))) f x = some (0, gsi (gsi (gsi S s 1 (nI (c + 1))) (f + 1) m x) f 1 (nI (m + 1))) := by
    unfold fX6_isStillWantedBehind_131
    rw [if_pos (form_cells hs.f S.2.2).1, x_fadd hs.f (by rw [gsi_n (by omega)]; exact p7) hm, gbd_s]
  rcases hx with ⟨rfl, h2⟩ | ⟨h1, h2, rfl⟩
  · rw [if_pos (show nI 3 = (3 : Int32) from rfl), gsi_n (by omega), h2, ad]
  · rw [if_neg (show ¬ nI t = (3 : Int32) from fun e => h1 ((nI_eq (b := 3) (by omega) (by decide)).mp e)), ad]
theorem xo_106f (hs : SF s f) (hvx : VwX S u n q) (hpx : PX S s f z k o c m K) (hc : c = 64) (t : Int32) : fX6_isStillWantedBehind_106 S f t = some (0, gsi (gsi S 31 0 (nI 2)) 31 1 (nI (kTp u n q))) := by
  subst hc
  unfold fX6_isStillWantedBehind_106
  rw [x_tie0 hs hpx.1 hpx.2.1 hpx.2.2.2.2.2.1 hvx, gbd_s, if_pos rfl]
theorem mo_out {x : Int32} (hw : w < 2) (hmx : MX S w z k o c m K) (hm : m < 64) (a b : Int32) (hk : gKn x a b) : fX11_out (gsi S 54 10 (nI (c + 1))) a b = some ((), gsi (gsi (gsi (gsi S 54 10 (nI (c + 1))) 56 (64 * (2 + w) + m) a) 57 (64 * (2 + w) + m) b) 58 (2 + w) (nI (m + 1))) ∧ MX (gsi (gsi (gsi (gsi S 54 10 (nI (c + 1))) 56 (64 * (2 + w) + m) a) 57 (64 * (2 + w) + m) b) 58 (2 + w) (nI (m + 1))) w z k o (c + 1) (m + 1) (upd K m x) ∧ Wr (wMf w) S (gsi (gsi (gsi (gsi S 54 10 (nI (c + 1))) 56 (64 * (2 + w) + m) a) 57 (64 * (2 + w) + m) b) 58 (2 + w) (nI (m + 1))) := by
  obtain ⟨p1, p2, p3, p4, p5, p6, p7, p8⟩ := hmx
  have no : ∀ x y, x ≠ 56 → x ≠ 57 → x ≠ 58 → (x ≠ 54 ∨ y ≠ 10) → (gsi (gsi (gsi (gsi S 54 10 (nI (c + 1))) 56 (64 * (2 + w) + m) a) 57 (64 * (2 + w) + m) b) 58 (2 + w) (nI (m + 1))).1 x y = S.1 x y := fun x y h1 h2 h3 h4 => by
    rw [gsi_n (by omega), gsi_n (by omega), gsi_n (by omega), gsi_n h4]
  refine ⟨m_out hw (by rw [gsi_n (by omega)]; exact p6) (by rw [gsi_n (by omega)]; exact p7) hm, ⟨?_, ?_, ?_, ?_, ?_, ?_, gsi_s, fun i hi => ?_⟩, ?_⟩
  · rw [no _ _ (by decide) (by decide) (by decide) (by decide)]; exact p1
  · rw [no _ _ (by decide) (by decide) (by decide) (by decide)]; exact p2
  · intro i hi; rw [no _ _ (by decide) (by decide) (by decide) (by omega)]; exact p3 i hi
  · rw [no _ _ (by decide) (by decide) (by decide) (by decide)]; exact p4
  · rw [gsi_n (by omega), gsi_n (by omega), gsi_n (by omega), gsi_s]
  · rw [no _ _ (by decide) (by decide) (by decide) (by decide)]; exact p6
  · by_cases e : i = m
    · subst e
      rw [gsi_n (by omega), gsi_n (by omega), gsi_s, gsi_n (by omega), gsi_s, pk_us]
      exact hk
    · rw [gsi_n (by omega), gsi_n (by omega), gsi_n (by omega), gsi_n (by omega), gsi_n (by omega), gsi_n (by omega), gsi_n (by omega), gsi_n (by omega), pk_un e]
      exact p8 i (by omega)
  · exact (((Wr.rf.si (by simp [wMf]) _).si (by simp [wMf]; omega) _).si (by simp [wMf]; omega) _).si (by simp [wMf]) _
theorem xo_new {x : Int32} (hs : SF s f) (hpx : PX S s f z k o c m K) : PX (gsi (gsi (gsi S s 1 (nI (c + 1))) (f + 1) m x) f 1 (nI (m + 1))) s f z k o (c + 1) (m + 1) (upd K m x) ∧ Wr (wXf s f) S (gsi (gsi (gsi S s 1 (nI (c + 1))) (f + 1) m x) f 1 (nI (m + 1))) := by
  obtain ⟨p1, p2, p3, p4, p5, p6, p7, p8⟩ := hpx
  obtain ⟨n1, n2, n3⟩ := hs.n
  have nsf : s ≠ f + 1 := by omega
  have no : ∀ a b, 31 ≤ a → (gsi (gsi (gsi S s 1 (nI (c + 1))) (f + 1) m x) f 1 (nI (m + 1))).1 a b = S.1 a b := fun a b h1 => by
    rw [gsi_n (by omega), gsi_n (by omega), gsi_n (by omega)]
  refine ⟨⟨p1, ?_, ?_, ?_, ?_, ?_, gsi_s, fun i hi => ?_⟩, ?_⟩
  · rw [no _ _ (by decide)]; exact p2
  · rw [no _ _ (by decide)]; exact p3
  · intro i hi; rw [no _ _ (by decide)]; exact p4 i hi
  · rw [no _ _ (by decide)]; exact p5
  · rw [gsi_n (by omega), gsi_n (by omega), gsi_s]
  · by_cases e : i = m
    · subst e
      rw [gsi_n (by omega), gsi_s, pk_us]
    · rw [gsi_n (by omega), gsi_n (by omega), gsi_n (by omega), pk_un e]
      exact p8 i (by omega)
  · exact ((Wr.rf.si (by simp [wXf]) _).si (by simp [wXf]) _).si (by simp [wXf]) _
/-- a sign or '(' that waits, class and reference -/
theorem xo_psh {S1 : GS} {o' c' : Nat} (hs : SF s f) (hz : z < 72) (e2 : S1.2 = S.2) (e : ∀ a b, a ≠ s → (a ≠ 31 ∨ b ≠ 6) → S1.1 a b = S.1 a b) (hpx : PX S s f z k o c m K) (e6 : S1.1 31 6 = nI o') (ec : S1.1 s 1 = nI c') (hw : Wr (wXf s f) S S1) (t : Nat) : PX (gsi (gsi S1 34 z (nI t)) 31 5 (nI (z + 1))) s f (z + 1) (psh k z t) o' c' m K ∧ Wr (wXf s f) S (gsi (gsi S1 34 z (nI t)) 31 5 (nI (z + 1))) := by
  obtain ⟨p1, p2, p3, p4, p5, p6, p7, p8⟩ := hpx
  obtain ⟨n1, n2, n3⟩ := hs.n
  have nsf : s ≠ f + 1 := by omega
  refine ⟨⟨?_, ?_, gsi_s, fun i hi => ?_, ?_, ?_, ?_, fun i hi => ?_⟩, ?_⟩
  · show S1.2.2 3 = s; rw [e2]; exact p1
  · rw [gsi_n (by omega), gsi_n (by omega), e _ _ (by omega) (by omega)]; exact p2
  · by_cases h : i = z
    · subst h; rw [gsi_n (by omega), gsi_s, psh_s]
    · rw [gsi_n (by omega), gsi_n (by omega), psh_n h, e _ _ (by omega) (by omega)]; exact p4 i (by omega)
  · rw [gsi_n (by omega), gsi_n (by omega)]; exact e6
  · rw [gsi_n (by omega), gsi_n (by omega)]; exact ec
  · rw [gsi_n (by omega), gsi_n (by omega), e _ _ (by omega) (by omega)]; exact p7
  · rw [gsi_n (by omega), gsi_n (by omega), e _ _ (by omega) (by omega)]; exact p8 i hi
  · exact (hw.si (by simp [wXf]) _).si (by simp [wXf]) _
theorem mo_psh {S1 : GS} {o' c' : Nat} (e : ∀ a b, (a ≠ 54 ∨ (b ≠ 10 ∧ b ≠ 25)) → S1.1 a b = S.1 a b) (hmx : MX S w z k o c m K) (e6 : S1.1 54 25 = nI o') (ec : S1.1 54 10 = nI c') (hw : Wr (wMf w) S S1) (t : Nat) : MX (gsi (gsi S1 60 z (gSgP t)) 54 24 (nI (z + 1))) w (z + 1) (psh k z t) o' c' m K ∧ Wr (wMf w) S (gsi (gsi S1 60 z (gSgP t)) 54 24 (nI (z + 1))) := by
  obtain ⟨p1, p2, p3, p4, p5, p6, p7, p8⟩ := hmx
  have no : ∀ a b, a ≠ 60 → (a ≠ 54 ∨ (b ≠ 10 ∧ b ≠ 25 ∧ b ≠ 24)) → (gsi (gsi S1 60 z (gSgP t)) 54 24 (nI (z + 1))).1 a b = S.1 a b := fun a b h1 h2 => by
    rw [gsi_n (by omega), gsi_n (by omega), e _ _ (by omega)]
  refine ⟨⟨?_, gsi_s, fun i hi => ?_, ?_, ?_, ?_, ?_, fun i hi => ?_⟩, ?_⟩
  · rw [no _ _ (by decide) (by decide)]; exact p1
  · by_cases h : i = z
    · subst h; rw [gsi_n (by omega), gsi_s, psh_s]
    · rw [gsi_n (by omega), gsi_n (by omega), psh_n h, e _ _ (by omega)]; exact p3 i (by omega)
  · rw [gsi_n (by omega), gsi_n (by omega)]; exact e6
  · rw [gsi_n (by omega), gsi_n (by omega)]; exact ec
  · rw [no _ _ (by decide) (by decide)]; exact p6
  · rw [no _ _ (by decide) (by omega)]; exact p7
  · rw [no _ _ (by decide) (by omega), no _ _ (by decide) (by omega)]; exact p8 i hi
  · exact (hw.si (by simp [wMf]) _).si (by simp [wMf]) _
end

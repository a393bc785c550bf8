/-! what holds between two calls: the class's cells and the reference's hold the same -/
theorem gib_nI {i N : Nat} (h : i < N) (hN : N < 2 ^ 31) : gib (nI i) N = true := by
  have h1 := vp_in_nI h hN
  unfold vp_in at h1
  unfold gib
  simpa using h1
theorem gib_ex {x : Int32} {N : Nat} (h : gib x N = true) (hN : N < 2 ^ 31) : ∃ j : Nat, j < N ∧ x = nI j := vp_in_of (gib_in h) hN
theorem gib_ge {x : Int32} {N M : Nat} (h : gib x N = true) (hM : N ≤ M) : gib x M = true := by
  unfold gib at h ⊢
  simp only [Bool.not_eq_true', Bool.or_eq_false_iff, decide_eq_false_iff_not] at h ⊢
  exact ⟨h.1, by omega⟩
theorem gib_c {x : Int32} {N : Nat} (h : gib x N = true) (hN : N < 2 ^ 31) : x.toNatClampNeg < N ∧ nI x.toNatClampNeg = x := by
  obtain ⟨j, h1, rfl⟩ := gib_ex h hN
  rw [nI_clamp (by omega)]
  exact ⟨h1, rfl⟩
theorem nI_m1 (n : Nat) : nI (n + 1) - (1 : Int32) = nI n := nI_pred n
/-- one case is LATER than another one -/
def gLat (f : Nat → Nat → Int32) (b a : Nat) : Prop := f 9 a < f 9 b ∨ (f 9 a = f 9 b ∧ a < b)
abbrev gOi (f : Nat → Nat → Int32) (a : Nat) : Nat := (f 13 a).toNatClampNeg
/-- a byte -/
def gNar (x : Int32) : Prop := x.toInt8.toInt32 = x
def IVt (f : Nat → Nat → Int32) (td nt : Nat) : Prop := f 0 2 = nI td ∧ f 54 29 = nI td ∧ td ≤ 9999 ∧ f 0 1 = nI nt ∧ f 54 2 = nI nt ∧ nt ≤ 400 ∧ nt % 20 = 0 ∧ ∀ i, i < nt → f 55 i = f 1 i &&& 255 ∧ gNar (f 1 i)
def IVc (f : Nat → Nat → Int32) (nc : Nat) : Prop := f 2 0 = nI nc ∧ f 54 30 = nI nc ∧ nc ≤ 6 ∧ ∀ i, i < nc → f 63 i = f 3 i ∧ f 64 i = f 4 i ∧ gib (f 3 i) 10 = true ∧ gib (f 4 i) 4 = true
def IVp (f : Nat → Nat → Int32) (np : Nat) : Prop := f 5 0 = nI np ∧ f 54 33 = nI np ∧ np ≤ 12 ∧ ∀ i, f 65 i = f 6 i
def IVk (f : Nat → Nat → Int32) (td nc nk : Nat) : Prop := f 7 0 = nI nk ∧ f 54 35 = nI nk ∧ nk ≤ 32 ∧
  (∀ i, i < nk → f 66 i = f 8 i ∧ f 67 i = f 9 i ∧ f 68 i = f 10 i ∧ f 69 i = f 11 i ∧ f 70 i = f 12 i ∧ gib (f 8 i) nc = true ∧ gib (f 9 i) (td + 1) = true ∧ gib (f 10 i) 4 = true ∧ f 10 i ≠ 0 ∧ gib (f 11 i) 1024 = true ∧ gib (f 12 i) (td + 1) = true) ∧
  (∀ a, a < nk → gib (f 13 a) nk = true) ∧ ∀ a b, a < b → b < nk → gLat f (gOi f b) (gOi f a)
/-- a note by its kind -/
def IVn1 (f : Nat → Nat → Int32) (td np nk i : Nat) : Prop :=
  f 71 i = f 15 i ∧ f 72 i = f 16 i ∧ gib (f 15 i) 9 = true ∧ gib (f 16 i) (td + 1) = true ∧
  (f 15 i ≤ 1 → f 73 i = f 17 i ∧ f 74 i = f 18 i ∧ f 75 i = f 19 i ∧ f 76 i = f 20 i ∧ gib (f 17 i) nk = true ∧ gib (f 18 i) 3 = true ∧ gib (f 19 i) np = true ∧ gib (f 20 i) 1024 = true ∧ f 12 (f 17 i).toNatClampNeg ≤ f 16 i) ∧
  (1 < f 15 i → f 15 i ≤ 4 → f 73 i = f 17 i ∧ f 74 i = f 18 i ∧ gib (f 17 i) nk = true ∧ gib (f 18 i) nk = true ∧ gLat f (f 17 i).toNatClampNeg (f 18 i).toNatClampNeg ∧ f 12 (f 17 i).toNatClampNeg ≤ f 16 i ∧ f 12 (f 18 i).toNatClampNeg ≤ f 16 i ∧ (f 15 i < 4 → f 75 i = f 19 i ∧ gib (f 19 i) np = true)) ∧
  (4 < f 15 i → f 15 i ≤ 6 → f 75 i = f 19 i ∧ f 74 i = f 20 i ∧ gib (f 19 i) np = true ∧ gib (f 20 i) 10000 = true) ∧
  (f 15 i = 7 → f 73 i = f 19 i ∧ f 74 i = f 18 i ∧ gib (f 19 i) np = true ∧ gib (f 18 i) np = true) ∧
  (f 15 i = 8 → f 73 i = f 18 i ∧ gib (f 18 i) i = true)
def IVn (f : Nat → Nat → Int32) (td np nk nn : Nat) : Prop := f 14 0 = nI nn ∧ f 54 41 = nI nn ∧ nn ≤ 120 ∧ ∀ i, i < nn → IVn1 f td np nk i
/-- the sign (reference) of a token (class): 7 .. 19 -/
def gSg (t : Nat) : Int32 := ([60, 256, 61, 257, 258, 62, 43, 45, 42, 47, 260, 261, 262] : List Int32).getD (t - 7) 0
/-- one knot: the class's number, the reference's sort and value -/
def gKn (x so va : Int32) : Prop := (∃ n, n ≤ 9999 ∧ x = nI n ∧ so = 0 ∧ va = nI n) ∨ (∃ n, n < 8 ∧ x = -(nI (20 + n)) ∧ so = 1 ∧ va = nI n) ∨ (∃ t, 7 ≤ t ∧ t ≤ 19 ∧ x = -(nI t) ∧ so = 2 ∧ va = gSg t)
/-- a line of the rules: told or not; its knots; kinds: 0 pushes, 17 not, others take two -/
def gOp (x : Int32) : Nat := if 0 ≤ x then 0 else if x = -17 then 1 else if -20 < x then 2 else 0
def gHt2 (f : Nat → Int32) : Nat → Option Nat
  | 0 => some 0
  | n + 1 => match gHt2 f n with
    | none => none
    | some h => if gOp (f n) = 0 then some (h + 1) else if gOp (f n) = 1 then (if 1 ≤ h then some h else none) else (if 2 ≤ h then some (h - 1) else none)
def IVl (f : Nat → Nat → Int32) (c w : Nat) : Prop := f 59 w = f c 0 ∧ (f c 0 = 0 ∨ (f c 0 = 1 ∧ ∃ n, n ≤ 64 ∧ f c 1 = nI n ∧ f 58 w = nI n ∧ (∀ i, i < n → gKn (f (c + 1) i) (f 56 (64 * w + i)) (f 57 (64 * w + i))) ∧ gHt2 (f (c + 1)) n = some 1))
def IVr (f : Nat → Nat → Int32) (r s : Nat) : Prop := (r = 21 ∧ s = 26 ∨ r = 26 ∧ s = 21) ∧ f r 1 = f 54 9 ∧ f r 2 = f 54 7 ∧ gib (f r 2) 10 = true ∧ f r 2 ≠ 0 ∧ IVl f (r + 1) 0 ∧ IVl f (r + 3) 1
def IVf (f : Nat → Nat → Int32) : Prop := f 31 0 = f 54 20 ∧ f 31 1 = f 54 21
def IVm (f : Nat → Nat → Int32) (r s : Nat) : Prop := ∃ td nt nc np nk nn, IVt f td nt ∧ IVc f nc ∧ IVp f np ∧ IVk f td nc nk ∧ IVn f td np nk nn ∧ IVr f r s ∧ IVf f
def IV (S : GS) : Prop := IVm S.1 (S.2.2 0) (S.2.2 1)
def irel (k j : Nat) : Bool := decide (k ≤ 30) || (k == 31 && decide (j ≤ 1)) || (k == 54 && [2, 7, 9, 20, 21, 29, 30, 33, 35, 41].contains j) || (decide (55 ≤ k) && decide (k ≤ 59)) || (decide (63 ≤ k) && decide (k ≤ 76))
set_option maxHeartbeats 4000000 in
theorem IVm_congr {f g : Nat → Nat → Int32} {r s : Nat} (e : ∀ k j, irel k j = true → g k j = f k j) (h : IVm f r s) : IVm g r s := by
  obtain ⟨td, nt, nc, np, nk, nn, h1, h2, h3, h4, h5, h6, h7⟩ := h
  have e1 := fun i => e 1 i rfl; have e2 := fun i => e 2 i rfl; have e3 := fun i => e 3 i rfl; have e4 := fun i => e 4 i rfl
  have e5 := fun i => e 5 i rfl; have e6 := fun i => e 6 i rfl; have e7 := fun i => e 7 i rfl; have e8 := fun i => e 8 i rfl; have e9 := fun i => e 9 i rfl
  have e10 := fun i => e 10 i rfl; have e11 := fun i => e 11 i rfl; have e12 := fun i => e 12 i rfl; have e13 := fun i => e 13 i rfl; have e14 := fun i => e 14 i rfl
  have e15 := fun i => e 15 i rfl; have e16 := fun i => e 16 i rfl; have e17 := fun i => e 17 i rfl; have e18 := fun i => e 18 i rfl; have e19 := fun i => e 19 i rfl
  have e20 := fun i => e 20 i rfl
  have e55 := fun i => e 55 i rfl; have e56 := fun i => e 56 i rfl; have e57 := fun i => e 57 i rfl; have e58 := fun i => e 58 i rfl; have e59 := fun i => e 59 i rfl
  have e63 := fun i => e 63 i rfl; have e64 := fun i => e 64 i rfl; have e65 := fun i => e 65 i rfl; have e66 := fun i => e 66 i rfl; have e67 := fun i => e 67 i rfl
  have e68 := fun i => e 68 i rfl; have e69 := fun i => e 69 i rfl; have e70 := fun i => e 70 i rfl; have e71 := fun i => e 71 i rfl; have e72 := fun i => e 72 i rfl
  have e73 := fun i => e 73 i rfl; have e74 := fun i => e 74 i rfl; have e75 := fun i => e 75 i rfl; have e76 := fun i => e 76 i rfl
  have f2 := e 54 2 rfl; have f7 := e 54 7 rfl; have f9 := e 54 9 rfl; have f20 := e 54 20 rfl; have f21 := e 54 21 rfl; have f29 := e 54 29 rfl; have f30 := e 54 30 rfl; have f33 := e 54 33 rfl; have f35 := e 54 35 rfl; have f41 := e 54 41 rfl
  have g0 := e 31 0 rfl; have g1 := e 31 1 rfl
  refine ⟨td, nt, nc, np, nk, nn, ?_, ?_, ?_, ?_, ?_, ?_, ?_⟩
  · unfold IVt at h1 ⊢; simp only [e 0 2 rfl, e 0 1 rfl, e1, e55, f2, f29]; exact h1
  · unfold IVc at h2 ⊢; simp only [e2, e3, e4, e63, e64, f30]; exact h2
  · unfold IVp at h3 ⊢; simp only [e5, e6, e65, f33]; exact h3
  · unfold IVk at h4 ⊢; unfold gLat at h4 ⊢; simp only [e7, e8, e9, e10, e11, e12, e13, e66, e67, e68, e69, e70, f35, gOi]; simpa only [gOi] using h4
  · unfold IVn IVn1 at h5 ⊢; unfold gLat at h5 ⊢; simp only [e9, e12, e14, e15, e16, e17, e18, e19, e20, e71, e72, e73, e74, e75, e76, f41]; exact h5
  · obtain ⟨hr, h6⟩ := h6
    refine ⟨hr, ?_⟩
    unfold IVl at h6 ⊢
    rcases hr with ⟨rfl, rfl⟩ | ⟨rfl, rfl⟩
    · have e21 := fun i => e 21 i rfl; have e22 := fun i => e 22 i rfl; have e23 : g 23 = f 23 := funext fun i => e 23 i rfl; have e24 := fun i => e 24 i rfl; have e25 : g 25 = f 25 := funext fun i => e 25 i rfl
      simp only [Nat.reduceAdd, e21, e22, e23, e24, e25, e56, e57, e58, e59, f9, f7] at h6 ⊢
      exact h6
    · have e21 := fun i => e 26 i rfl; have e22 := fun i => e 27 i rfl; have e23 : g 28 = f 28 := funext fun i => e 28 i rfl; have e24 := fun i => e 29 i rfl; have e25 : g 30 = f 30 := funext fun i => e 30 i rfl
      simp only [Nat.reduceAdd, e21, e22, e23, e24, e25, e56, e57, e58, e59, f9, f7] at h6 ⊢
      exact h6
  · unfold IVf at h7 ⊢; rw [g0, g1, f20, f21]; exact h7
theorem IV_scr {S S' : GS} (h : IV S) (e : ∀ k j, irel k j = true → S'.1 k j = S.1 k j) (e0 : S'.2.2 0 = S.2.2 0) (e1 : S'.2.2 1 = S.2.2 1) : IV S' := by
  unfold IV
  rw [e0, e1]
  exact IVm_congr e h
theorem IV_thr {S : GS} (h : IV S) (x : Int32) : IV (gsi S 54 0 x) := by
  refine IV_scr h (fun k j hi => ?_) rfl rfl
  unfold gsi
  dsimp only
  rw [if_neg]
  rintro ⟨rfl, rfl⟩
  cases hi

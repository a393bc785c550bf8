/-! THE ONE WORLD: all cells that the law makes, at H0.size + k; what they hold is a state S: ints by cell and place, longs by cell and place, the references that change -/
abbrev GS : Type := (Nat → Nat → Int32) × (Nat → Nat → Int64) × (Nat → Nat)
abbrev GE : Type := Heap × va_G × (Nat → ClassId) × (Nat → Nat) × (Nat → Nat) × Nat
def gkL : List Nat := [10, 13, 1, 12, 12, 5, 12, 0, 12, 12, 12, 12, 12, 12, 4, 12, 12, 12, 12, 12, 12, 7, 2, 12, 2, 12, 7, 2, 12, 2, 12, 6, 8, 13, 12, 9, 3, 12, 12, 12, 12, 12, 12, 12, 12, 12, 12, 12, 12, 12, 15, 15, 12, 12, 11, 12, 12, 12, 12, 14, 12, 15, 15, 12, 12, 12, 12, 12, 12, 12, 12, 12, 12, 12, 12, 12, 12, 14, 14, 12, 12, 12, 12, 12, 12, 14, 12, 15]
def gnL : List Nat := [13, 400, 3, 6, 6, 2, 12, 7, 32, 32, 32, 32, 32, 32, 7, 120, 120, 120, 120, 120, 120, 6, 3, 64, 3, 64, 6, 3, 64, 3, 64, 7, 6, 0, 72, 12, 16, 12, 12, 32, 384, 384, 12, 120, 32, 32, 120, 120, 32, 32, 8, 64, 12, 32, 62, 400, 256, 256, 4, 4, 96, 8, 72, 6, 6, 12, 32, 32, 32, 32, 32, 120, 120, 120, 120, 120, 120, 120, 120, 12, 12, 32, 32, 32, 32, 32, 12, 1]
def gfL : List (List Nat) := [[2, 0, 0, 3, 6, 8, 15, 32, 1000, 1001, 36, 53, 54], [], [0, 4, 5], [], [], [0, 7], [], [0, 9, 10, 11, 12, 13, 14], [], [], [], [], [], [], [0, 16, 17, 18, 19, 20, 21], [], [], [], [], [], [], [0, 0, 0, 0, 23, 25], [0, 0, 24], [], [0, 0, 26], [], [0, 0, 0, 0, 28, 30], [0, 0, 29], [], [0, 0, 31], [], [0, 0, 33, 1003, 35, 0, 0], [1004, 0, 0, 0, 0, 0], [], [], [3, 8, 15, 37, 1002, 0, 0, 0, 49, 50, 51, 52], [6, 8, 15, 0, 38, 39, 40, 41, 42, 43, 44, 45, 46, 47, 0, 48], [], [], [], [], [], [], [], [], [], [], [], [], [], [], [], [], [], [0, 56, 0, 57, 58, 59, 60, 0, 0, 0, 0, 0, 0, 0, 0, 0, 0, 0, 0, 0, 0, 0, 0, 61, 0, 0, 62, 63, 0, 0, 0, 64, 65, 0, 66, 0, 67, 68, 69, 70, 71, 0, 72, 73, 74, 75, 76, 77, 78, 79, 80, 81, 0, 82, 83, 84, 85, 86, 0, 0, 0, 87], [], [], [], [], [], [], [], [], [], [], [], [], [], [], [], [], [], [], [], [], [], [], [], [], [], [], [], [], [], [], [], [], []]
def gctL : List (List Nat) := [[0, 1, 1, 1, 1, 1, 1], [0, 1, 1], [0, 0, 1], [1, 1, 1, 0, 1, 1, 1, 1, 1, 1, 1, 1, 1, 1, 0, 1], [0, 1, 1, 1, 1, 1, 1], [0, 1], [0, 0, 1, 1, 1, 0, 0], [0, 0, 0, 0, 1, 1], [1, 0, 0, 0, 0, 0], [1, 1, 1, 1, 1, 0, 0, 0, 1, 1, 1, 1], [1, 0, 0, 1, 1, 1, 1, 1, 1, 1, 1, 1, 1], [0, 1, 0, 1, 1, 1, 1, 0, 0, 0, 0, 0, 0, 0, 0, 0, 0, 0, 0, 0, 0, 0, 0, 1, 0, 0, 1, 1, 0, 0, 0, 1, 1, 0, 1, 0, 1, 1, 1, 1, 1, 0, 1, 1, 1, 1, 1, 1, 1, 1, 1, 1, 0, 1, 1, 1, 1, 1, 0, 0, 0, 1]]
def gk (k : Nat) : Nat := gkL.getD k 99
def gn (k : Nat) : Nat := gnL.getD k 0
def gfc (k j : Nat) : Nat := (gfL.getD k []).getD j 0
def gct (ci j : Nat) : Nat := (gctL.getD ci []).getD j 9
def gcn (ci : Nat) : Nat := (gctL.getD ci []).length
def gr (q : Nat → Nat) (k j : Nat) : Nat := if gfc k j < 1000 then gfc k j - 1 else q (gfc k j - 1000)
def gv (B : Nat) (S : GS) (k j : Nat) : Value := if gfc k j = 0 then .int (S.1 k j) else .ref (B + gr S.2.2 k j)
def ge (cs : Nat → ClassId) (B : Nat) (S : GS) (k : Nat) : va_E :=
  if gk k = 12 then .inl (cs 0, gn k, .inl (S.1 k))
  else if gk k = 13 then .inl (cs 1, gn k, .inl (S.1 k))
  else if gk k = 14 then .inl (cs 2, gn k, .inl (S.1 k))
  else if gk k = 15 then .inl (cs 3, gn k, .inr (.inl (S.2.1 k)))
  else .inr (gk k, (List.range (gcn (gk k))).map (gv B S k))
def gws (cs : Nat → ClassId) (B : Nat) (S : GS) : va_W := (List.range 88).map fun k => (B + k, ge cs B S k)
abbrev gA (H0 : Heap) : Nat → Prop := fun q => H0.size ≤ q
abbrev gtys (cs : Nat → ClassId) : List (ClassId × FieldType) := [(cs 0, .int), (cs 1, .byte), (cs 2, .boolean), (cs 3, .long)]
def GX (E : GE) (S : GS) (H : Heap) (locs : List Loc) : Prop := va_P E.2.1 vwCl (gws E.2.2.1 E.1.size S) H ∧ va_S (gA E.1) E.1 H locs
abbrev gR (E : GE) (k : Nat) : Value := .ref (E.1.size + k)
def gsi (S : GS) (k j : Nat) (x : Int32) : GS := (fun a b => if a = k ∧ b = j then x else S.1 a b, S.2)
def gsl (S : GS) (k j : Nat) (x : Int64) : GS := (S.1, (fun a b => if a = k ∧ b = j then x else S.2.1 a b), S.2.2)
def gsq (S : GS) (i : Nat) (x : Nat) : GS := (S.1, S.2.1, fun a => if a = i then x else S.2.2 a)
def gib (i : Int32) (n : Nat) : Bool := !(decide (i < 0) || decide (n ≤ i.toNatClampNeg))
theorem gib_in {i : Int32} {n : Nat} (h : gib i n = true) : vp_in i n := by
  unfold gib at h
  unfold vp_in
  simpa using h
theorem g_if {c : Prop} {d : Decidable c} {α : Type} {A : Option α} {r : α} (h : (@ite _ c d A none) = some r) : c ∧ A = some r := by
  by_cases hc : c
  · rw [if_pos hc] at h; exact ⟨hc, h⟩
  · rw [if_neg hc] at h; cases h
theorem g_pos {c : Prop} {d : Decidable c} {α : Type} {A B : Option α} {r : α} (hc : c) (h : (@ite _ c d A B) = some r) : A = some r := by rw [if_pos hc] at h; exact h
theorem g_neg {c : Prop} {d : Decidable c} {α : Type} {A B : Option α} {r : α} (hc : ¬ c) (h : (@ite _ c d A B) = some r) : B = some r := by rw [if_neg hc] at h; exact h
def glet {α β : Type} (x : α) (k : α → β) : β := k x
theorem g_let {α β : Type} {x v : α} {k : α → β} {r : β} (e : v = x) (h : glet x k = r) : k v = r := by subst e; exact h
def gbd {α β : Type} (x : Option (α × GS)) (k : α → GS → Option β) : Option β := match x with
  | some q => k q.1 q.2
  | none => none
theorem g_bd {α β : Type} {x : Option (α × GS)} {k : α → GS → Option β} {r : β} (h : gbd x k = some r) : ∃ a S, x = some (a, S) ∧ k a S = some r := by
  cases x with
  | none => cases h
  | some q => exact ⟨q.1, q.2, rfl, h⟩
def gbv {α β : Type} (x : Option α) (k : α → Option β) : Option β := match x with
  | some q => k q
  | none => none
theorem g_bv {α β : Type} {x : Option α} {k : α → Option β} {r : β} (h : gbv x k = some r) : ∃ a, x = some a ∧ k a = some r := by
  cases x with
  | none => cases h
  | some q => exact ⟨q, rfl, h⟩
def lw_g : List Cond := lw_tbl.filter goodWord
theorem lw_g_of (i : Nat) {w : Cond} (h : tables_1[i]? = some w) (hg : goodWord w = true) : w ∈ lw_g := List.mem_filter.mpr ⟨List.mem_append_right _ (List.mem_of_getElem? h), hg⟩
theorem lw_g_sel (i : Nat) {q : MethodName × Nat} (h : lw_privs[i]? = some q) (hg : goodWord (Cond.selects q.1.cls q.1 q.1) = true) : Cond.selects q.1.cls q.1 q.1 ∈ lw_g := List.mem_filter.mpr ⟨List.mem_append_left _ (List.mem_map.mpr ⟨q, List.mem_of_getElem? h, rfl⟩), hg⟩
theorem lw_g_good : GoodIn lw_g lw_g := fun w hw => ⟨hw, good_of_word (List.mem_filter.mp hw).2⟩
theorem gk_lt {k ci : Nat} (h : gk k = ci) (hc : ci < 99) : k < 88 := by
  rcases Nat.lt_or_ge k 88 with q | q
  · exact q
  · exfalso
    have h1 : gk k = 99 := by
      unfold gk
      rw [List.getD_eq_getElem?_getD, List.getElem?_eq_none (by exact q)]
      rfl
    omega
theorem gk_int : ∀ k, k < 88 → gk k < 12 → ∀ j, j < gcn (gk k) → (gct (gk k) j = 0 ↔ gfc k j = 0) := by decide +kernel
theorem gws_at {cs : Nat → ClassId} {B : Nat} {S : GS} {k : Nat} (hk : k < 88) : (gws cs B S)[k]? = some (B + k, ge cs B S k) := by
  unfold gws
  rw [List.getElem?_map, List.getElem?_range hk]
  rfl
theorem gws_len {cs : Nat → ClassId} {B : Nat} {S : GS} : (gws cs B S).length = 88 := by simp [gws]
theorem gws_D {cs : Nat → ClassId} {H0 : Heap} {S : GS} : va_D (gA H0) (gws cs H0.size S) := by
  refine ⟨fun i j p q hp hq hpq => ?_, fun k q hq => ?_⟩
  · have hi : i < 88 := by rw [← gws_len (cs := cs) (B := H0.size) (S := S)]; exact (List.getElem?_eq_some_iff.mp hp).1
    have hj : j < 88 := by rw [← gws_len (cs := cs) (B := H0.size) (S := S)]; exact (List.getElem?_eq_some_iff.mp hq).1
    rw [gws_at hi] at hp
    rw [gws_at hj] at hq
    cases hp; cases hq
    exact Nat.add_left_cancel hpq
  · have hk : k < 88 := by rw [← gws_len (cs := cs) (B := H0.size) (S := S)]; exact (List.getElem?_eq_some_iff.mp hq).1
    rw [gws_at hk] at hq
    cases hq
    exact Nat.le_add_right _ _
theorem ge_o {cs : Nat → ClassId} {B : Nat} {S : GS} {k ci : Nat} (h : gk k = ci) (hc : ci < 12) : ge cs B S k = .inr (ci, (List.range (gcn ci)).map (gv B S k)) := by
  subst h
  unfold ge
  rw [if_neg (by omega), if_neg (by omega), if_neg (by omega), if_neg (by omega)]
theorem ge_i {cs : Nat → ClassId} {B : Nat} {S : GS} {k : Nat} (h : gk k = 12) : ge cs B S k = .inl (cs 0, gn k, .inl (S.1 k)) := by unfold ge; rw [if_pos h]
theorem ge_b {cs : Nat → ClassId} {B : Nat} {S : GS} {k : Nat} (h : gk k = 13) : ge cs B S k = .inl (cs 1, gn k, .inl (S.1 k)) := by unfold ge; rw [if_neg (by omega), if_pos h]
theorem ge_z {cs : Nat → ClassId} {B : Nat} {S : GS} {k : Nat} (h : gk k = 14) : ge cs B S k = .inl (cs 2, gn k, .inl (S.1 k)) := by unfold ge; rw [if_neg (by omega), if_neg (by omega), if_pos h]
theorem ge_j {cs : Nat → ClassId} {B : Nat} {S : GS} {k : Nat} (h : gk k = 15) : ge cs B S k = .inl (cs 3, gn k, .inr (.inl (S.2.1 k))) := by unfold ge; rw [if_neg (by omega), if_neg (by omega), if_neg (by omega), if_pos h]
theorem gsi_ne {S : GS} {k j i : Nat} {x : Int32} (h : i ≠ k) : (gsi S k j x).1 i = S.1 i := by
  funext b
  simp [gsi, h]
theorem gsi_eq {S : GS} {k j : Nat} {x : Int32} : (gsi S k j x).1 k = upd (S.1 k) j x := by
  funext b
  simp [gsi, upd]
theorem gsl_ne {S : GS} {k j i : Nat} {x : Int64} (h : i ≠ k) : (gsl S k j x).2.1 i = S.2.1 i := by
  funext b
  simp [gsl, h]
theorem gsl_eq {S : GS} {k j : Nat} {x : Int64} : (gsl S k j x).2.1 k = vp_updL (S.2.1 k) j x := by
  funext b
  simp [gsl, vp_updL]
theorem ge_congr {cs : Nat → ClassId} {B : Nat} {S S' : GS} {k : Nat} (h1 : S'.1 k = S.1 k) (h2 : S'.2.1 k = S.2.1 k) (h3 : gk k < 12 → ∀ j, gv B S' k j = gv B S k j) : ge cs B S' k = ge cs B S k := by
  unfold ge
  rw [h1, h2]
  by_cases a : gk k = 12
  · rw [if_pos a, if_pos a]
  by_cases b : gk k = 13
  · rw [if_neg a, if_neg a, if_pos b, if_pos b]
  by_cases c : gk k = 14
  · rw [if_neg a, if_neg a, if_neg b, if_neg b, if_pos c, if_pos c]
  by_cases d : gk k = 15
  · rw [if_neg a, if_neg a, if_neg b, if_neg b, if_neg c, if_neg c, if_pos d, if_pos d]
  rw [if_neg a, if_neg a, if_neg b, if_neg b, if_neg c, if_neg c, if_neg d, if_neg d]
  by_cases e : gk k < 12
  · rw [show gv B S' k = gv B S k from funext (h3 e)]
  · have hz : gcn (gk k) = 0 := by
      unfold gcn
      rw [List.getD_eq_getElem?_getD, List.getElem?_eq_none (by show 12 ≤ _; omega)]
      rfl
    rw [hz]
    rfl
theorem gws_set {cs : Nat → ClassId} {B : Nat} {S S' : GS} {k : Nat} {x : va_E} (hk : k < 88) (he : x = ge cs B S' k) (ho : ∀ i, i ≠ k → ge cs B S' i = ge cs B S i) : (gws cs B S).set k (B + k, x) = gws cs B S' := by
  apply List.ext_getElem?
  intro i
  by_cases hi : i < 88
  · rw [gws_at hi]
    by_cases hik : i = k
    · subst hik
      rw [List.getElem?_set_self (by rw [gws_len]; exact hi), he]
    · rw [List.getElem?_set_ne (fun q => hik q.symm), gws_at hi, ho i hik]
  · rw [List.getElem?_eq_none (by rw [List.length_set, gws_len]; omega), List.getElem?_eq_none (by rw [gws_len]; omega)]
theorem gws_seti {cs : Nat → ClassId} {B : Nat} {S : GS} {k ci j : Nat} {x : Int32} (hk : gk k = ci) (hc : ci < 12) (h0 : gfc k j = 0) : (gws cs B S).set k (B + k, .inr (ci, ((List.range (gcn ci)).map (gv B S k)).set j (.int x))) = gws cs B (gsi S k j x) := by
  refine gws_set (gk_lt hk (by omega)) ?_ (fun i hi => ge_congr (gsi_ne hi) rfl (fun _ b => ?_))
  · rw [ge_o hk hc]
    congr 2
    apply List.ext_getElem?
    intro b
    by_cases hb : b < gcn ci
    · rw [List.getElem?_set, List.getElem?_map, List.getElem?_map, List.getElem?_range hb]
      by_cases hbj : j = b
      · subst hbj
        rw [if_pos rfl, if_pos (by simpa using hb)]
        simp [gv, h0, gsi]
      · rw [if_neg hbj]
        have e1 : (gsi S k j x).1 k b = S.1 k b := by simp [gsi, Ne.symm hbj]
        simp only [Option.map_some]
        unfold gv
        rw [e1]
        rfl
    · rw [List.getElem?_eq_none (by simp; omega), List.getElem?_eq_none (by simp; omega)]
  · unfold gv
    rw [gsi_ne hi]
    rfl
theorem gws_seta {cs : Nat → ClassId} {B : Nat} {S : GS} {k t j : Nat} {x : Int32} (hk : gk k = t) (ht : t < 16) (hg : ∀ S' : GS, ge cs B S' k = .inl (cs (t - 12), gn k, .inl (S'.1 k))) : (gws cs B S).set k (B + k, .inl (cs (t - 12), gn k, .inl (upd (S.1 k) j x))) = gws cs B (gsi S k j x) := by
  refine gws_set (gk_lt hk (by omega)) ?_ (fun i hi => ge_congr (gsi_ne hi) rfl (fun _ b => ?_))
  · rw [hg, gsi_eq]
  · unfold gv
    rw [gsi_ne hi]
    rfl
theorem gws_setl {cs : Nat → ClassId} {B : Nat} {S : GS} {k j : Nat} {x : Int64} (hk : gk k = 15) : (gws cs B S).set k (B + k, .inl (cs 3, gn k, .inr (.inl (vp_updL (S.2.1 k) j x)))) = gws cs B (gsl S k j x) := by
  refine gws_set (gk_lt hk (by omega)) ?_ (fun i hi => ge_congr rfl (gsl_ne hi) (fun _ b => rfl))
  · rw [ge_j hk, gsl_eq]
theorem gws_setq {cs : Nat → ClassId} {B : Nat} {S : GS} {k ci j i t : Nat} (hk : gk k = ci) (hc : ci < 12) (h0 : gfc k j = 1000 + i) (h1 : ∀ a, a < 88 → gk a < 12 → ∀ b, b < gcn (gk a) → gfc a b = 1000 + i → a = k ∧ b = j) : (gws cs B S).set k (B + k, .inr (ci, ((List.range (gcn ci)).map (gv B S k)).set j (.ref (B + t)))) = gws cs B (gsq S i t) := by
  have key : ∀ a b, gfc a b ≠ 1000 + i → gv B (gsq S i t) a b = gv B S a b := by
    intro a b hab
    unfold gv gr
    by_cases z : gfc a b = 0
    · rw [if_pos z, if_pos z]; rfl
    · rw [if_neg z, if_neg z]
      by_cases y : gfc a b < 1000
      · rw [if_pos y, if_pos y]
      · rw [if_neg y, if_neg y]
        have : gfc a b - 1000 ≠ i := by omega
        simp [gsq, this]
  have hkl : k < 88 := gk_lt hk (by omega)
  refine gws_set hkl ?_ (fun a ha => ?_)
  · rw [ge_o hk hc]
    congr 2
    apply List.ext_getElem?
    intro b
    by_cases hb : b < gcn ci
    · rw [List.getElem?_set, List.getElem?_map, List.getElem?_map, List.getElem?_range hb]
      by_cases hbj : j = b
      · subst hbj
        rw [if_pos rfl, if_pos (by simpa using hb)]
        have z : ¬ gfc k j = 0 := by omega
        have y : ¬ gfc k j < 1000 := by omega
        simp only [Option.map_some]
        unfold gv gr
        rw [if_neg z, if_neg y, h0]
        simp [gsq]
      · rw [if_neg hbj]
        simp only [Option.map_some]
        rw [key]
        intro q
        exact hbj (h1 k hkl (by omega) b (by rw [hk]; exact hb) q).2.symm
    · rw [List.getElem?_eq_none (by simp; omega), List.getElem?_eq_none (by simp; omega)]
  · by_cases hal : a < 88
    · by_cases hak : gk a < 12
      · have e1 : (List.range (gcn (gk a))).map (gv B (gsq S i t) a) = (List.range (gcn (gk a))).map (gv B S a) := by
          apply List.map_congr_left
          intro b hb
          exact key a b (fun q => ha (h1 a hal hak b (List.mem_range.mp hb) q).1)
        rw [ge_o rfl hak, ge_o rfl hak, e1]
      · exact ge_congr rfl rfl (fun h => absurd h hak)
    · refine ge_congr rfl rfl (fun h b => ?_)
      exfalso
      exact hal (gk_lt rfl (by omega))

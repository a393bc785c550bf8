/-! the state as the constructors leave it -/
def gI0 (k j : Nat) : Int32 := if k = 21 ∧ j = 2 then 2 else if k = 26 ∧ j = 2 then 2 else if k = 31 ∧ j = 1 then -1 else if k = 54 ∧ j = 7 then 2 else if k = 54 ∧ j = 21 then -1 else 0
def gS1 : GS := (gI0, fun _ _ => 0, fun i => if i = 0 then 21 else if i = 1 then 26 else if i = 2 then 21 else if i = 3 then 26 else 33)
theorem IV_start : IV gS1 := by
  refine ⟨0, 0, 0, 0, 0, 0, ?_, ?_, ?_, ?_, ?_, ?_, ?_⟩
  · exact ⟨by decide, by decide, by decide, by decide, by decide, by decide, by decide, fun i hi => absurd hi (Nat.not_lt_zero _)⟩
  · exact ⟨by decide, by decide, by decide, fun i hi => absurd hi (Nat.not_lt_zero _)⟩
  · exact ⟨by decide, by decide, by decide, fun i => rfl⟩
  · exact ⟨by decide, by decide, by decide, fun i hi => absurd hi (Nat.not_lt_zero _), fun i hi => absurd hi (Nat.not_lt_zero _), fun a b _ hb => absurd hb (Nat.not_lt_zero _)⟩
  · exact ⟨by decide, by decide, by decide, fun i hi => absurd hi (Nat.not_lt_zero _)⟩
  · exact ⟨Or.inl ⟨rfl, rfl⟩, by decide, by decide, by decide, by decide, ⟨by decide, Or.inl (by decide)⟩, ⟨by decide, Or.inl (by decide)⟩⟩
  · exact ⟨by decide, by decide⟩
theorem gp_toX {E : GE} {F : FE} {H : Heap} {locs : List Loc} {S : GS} (h : GP E 88 F H locs) (hF : ∀ i, i < 88 → F i = ge E.2.2.1 E.1.size S i) : GX E S H locs := by
  refine ⟨?_, h.2⟩
  have e : gl E.1.size F 88 = gws E.2.2.1 E.1.size S := List.map_congr_left fun i hi => by rw [hF i (List.mem_range.mp hi)]
  rw [← e]
  exact h.1

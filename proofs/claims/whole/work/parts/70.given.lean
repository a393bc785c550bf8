/-! what the law's start gives: classes, arrays, texts, statics -/
def nF : List Cond := flatC (Jvm.Cond.and given_1 narrow_1)
abbrev tmS (i : Nat) : Term := .string (gsoL.getD i "") (gsxL.getD i 0)
theorem nf_ex : ∀ i, i < 18 → Cond.exactly (tmS i) "java/lang/String" ∈ nF := by decide +kernel
theorem nf_co : ∀ i, i < 18 → Cond.eq (.field (tmS i) "java/lang/String" "coder" "B") (.int 0) ∈ nF := by decide +kernel
theorem nf_ar : ∀ i, i < 18 → Cond.arrayOf (.field (tmS i) "java/lang/String" "value" "[B") .byte ∈ nF := by decide +kernel
theorem nf_le : ∀ i, i < 18 → Cond.eq (.length (.field (tmS i) "java/lang/String" "value" "[B")) (.int (Int32.ofNat (gsnL.getD i 0))) ∈ nF := by decide +kernel
theorem nf_el0 : ∀ j, j < gsnL.getD 0 0 → nF[277 + j]? = some (Cond.eq (.elem (.field (tmS 0) "java/lang/String" "value" "[B") (.int (Int32.ofNat j))) (.int ((gsbL.getD 0 []).getD j 0))) := by decide +kernel
theorem nf_el1 : ∀ j, j < gsnL.getD 1 0 → nF[308 + j]? = some (Cond.eq (.elem (.field (tmS 1) "java/lang/String" "value" "[B") (.int (Int32.ofNat j))) (.int ((gsbL.getD 1 []).getD j 0))) := by decide +kernel
theorem nf_el2 : ∀ j, j < gsnL.getD 2 0 → nF[49 + j]? = some (Cond.eq (.elem (.field (tmS 2) "java/lang/String" "value" "[B") (.int (Int32.ofNat j))) (.int ((gsbL.getD 2 []).getD j 0))) := by decide +kernel
theorem nf_el3 : ∀ j, j < gsnL.getD 3 0 → nF[56 + j]? = some (Cond.eq (.elem (.field (tmS 3) "java/lang/String" "value" "[B") (.int (Int32.ofNat j))) (.int ((gsbL.getD 3 []).getD j 0))) := by decide +kernel
theorem nf_el4 : ∀ j, j < gsnL.getD 4 0 → nF[64 + j]? = some (Cond.eq (.elem (.field (tmS 4) "java/lang/String" "value" "[B") (.int (Int32.ofNat j))) (.int ((gsbL.getD 4 []).getD j 0))) := by decide +kernel
theorem nf_el5 : ∀ j, j < gsnL.getD 5 0 → nF[72 + j]? = some (Cond.eq (.elem (.field (tmS 5) "java/lang/String" "value" "[B") (.int (Int32.ofNat j))) (.int ((gsbL.getD 5 []).getD j 0))) := by decide +kernel
theorem nf_el6 : ∀ j, j < gsnL.getD 6 0 → nF[83 + j]? = some (Cond.eq (.elem (.field (tmS 6) "java/lang/String" "value" "[B") (.int (Int32.ofNat j))) (.int ((gsbL.getD 6 []).getD j 0))) := by decide +kernel
theorem nf_el7 : ∀ j, j < gsnL.getD 7 0 → nF[94 + j]? = some (Cond.eq (.elem (.field (tmS 7) "java/lang/String" "value" "[B") (.int (Int32.ofNat j))) (.int ((gsbL.getD 7 []).getD j 0))) := by decide +kernel
theorem nf_el8 : ∀ j, j < gsnL.getD 8 0 → nF[107 + j]? = some (Cond.eq (.elem (.field (tmS 8) "java/lang/String" "value" "[B") (.int (Int32.ofNat j))) (.int ((gsbL.getD 8 []).getD j 0))) := by decide +kernel
theorem nf_el9 : ∀ j, j < gsnL.getD 9 0 → nF[121 + j]? = some (Cond.eq (.elem (.field (tmS 9) "java/lang/String" "value" "[B") (.int (Int32.ofNat j))) (.int ((gsbL.getD 9 []).getD j 0))) := by decide +kernel
theorem nf_el10 : ∀ j, j < gsnL.getD 10 0 → nF[137 + j]? = some (Cond.eq (.elem (.field (tmS 10) "java/lang/String" "value" "[B") (.int (Int32.ofNat j))) (.int ((gsbL.getD 10 []).getD j 0))) := by decide +kernel
theorem nf_el11 : ∀ j, j < gsnL.getD 11 0 → nF[154 + j]? = some (Cond.eq (.elem (.field (tmS 11) "java/lang/String" "value" "[B") (.int (Int32.ofNat j))) (.int ((gsbL.getD 11 []).getD j 0))) := by decide +kernel
theorem nf_el12 : ∀ j, j < gsnL.getD 12 0 → nF[170 + j]? = some (Cond.eq (.elem (.field (tmS 12) "java/lang/String" "value" "[B") (.int (Int32.ofNat j))) (.int ((gsbL.getD 12 []).getD j 0))) := by decide +kernel
theorem nf_el13 : ∀ j, j < gsnL.getD 13 0 → nF[191 + j]? = some (Cond.eq (.elem (.field (tmS 13) "java/lang/String" "value" "[B") (.int (Int32.ofNat j))) (.int ((gsbL.getD 13 []).getD j 0))) := by decide +kernel
theorem nf_el14 : ∀ j, j < gsnL.getD 14 0 → nF[211 + j]? = some (Cond.eq (.elem (.field (tmS 14) "java/lang/String" "value" "[B") (.int (Int32.ofNat j))) (.int ((gsbL.getD 14 []).getD j 0))) := by decide +kernel
theorem nf_el15 : ∀ j, j < gsnL.getD 15 0 → nF[236 + j]? = some (Cond.eq (.elem (.field (tmS 15) "java/lang/String" "value" "[B") (.int (Int32.ofNat j))) (.int ((gsbL.getD 15 []).getD j 0))) := by decide +kernel
theorem nf_el16 : ∀ j, j < gsnL.getD 16 0 → nF[0 + j]? = some (Cond.eq (.elem (.field (tmS 16) "java/lang/String" "value" "[B") (.int (Int32.ofNat j))) (.int ((gsbL.getD 16 []).getD j 0))) := by decide +kernel
theorem nf_el17 : ∀ j, j < gsnL.getD 17 0 → nF[340 + j]? = some (Cond.eq (.elem (.field (tmS 17) "java/lang/String" "value" "[B") (.int (Int32.ofNat j))) (.int ((gsbL.getD 17 []).getD j 0))) := by decide +kernel
theorem nf_el : ∀ i, i < 18 → ∀ j, j < gsnL.getD i 0 → Cond.eq (.elem (.field (tmS i) "java/lang/String" "value" "[B") (.int (Int32.ofNat j))) (.int ((gsbL.getD i []).getD j 0)) ∈ nF := fun i hi => match i, hi with
  | 0, _ => fun j hj => List.mem_of_getElem? (nf_el0 j hj)
  | 1, _ => fun j hj => List.mem_of_getElem? (nf_el1 j hj)
  | 2, _ => fun j hj => List.mem_of_getElem? (nf_el2 j hj)
  | 3, _ => fun j hj => List.mem_of_getElem? (nf_el3 j hj)
  | 4, _ => fun j hj => List.mem_of_getElem? (nf_el4 j hj)
  | 5, _ => fun j hj => List.mem_of_getElem? (nf_el5 j hj)
  | 6, _ => fun j hj => List.mem_of_getElem? (nf_el6 j hj)
  | 7, _ => fun j hj => List.mem_of_getElem? (nf_el7 j hj)
  | 8, _ => fun j hj => List.mem_of_getElem? (nf_el8 j hj)
  | 9, _ => fun j hj => List.mem_of_getElem? (nf_el9 j hj)
  | 10, _ => fun j hj => List.mem_of_getElem? (nf_el10 j hj)
  | 11, _ => fun j hj => List.mem_of_getElem? (nf_el11 j hj)
  | 12, _ => fun j hj => List.mem_of_getElem? (nf_el12 j hj)
  | 13, _ => fun j hj => List.mem_of_getElem? (nf_el13 j hj)
  | 14, _ => fun j hj => List.mem_of_getElem? (nf_el14 j hj)
  | 15, _ => fun j hj => List.mem_of_getElem? (nf_el15 j hj)
  | 16, _ => fun j hj => List.mem_of_getElem? (nf_el16 j hj)
  | 17, _ => fun j hj => List.mem_of_getElem? (nf_el17 j hj)
  | n + 18, h => absurd h (by omega)
def nePl : List (List Nat) := [[0, 335, 0, 0, 0, 0, 0, 0, 0, 0, 0, 0, 0, 0, 0, 0, 0, 432], [0, 0, 0, 0, 0, 0, 0, 0, 0, 0, 0, 0, 0, 0, 0, 0, 0, 433], [289, 320, 0, 59, 66, 76, 86, 98, 111, 126, 142, 157, 177, 196, 220, 242, 259, 417], [290, 321, 0, 0, 67, 77, 87, 99, 112, 127, 143, 158, 178, 197, 221, 243, 260, 418], [291, 322, 0, 0, 0, 78, 88, 100, 113, 128, 144, 159, 179, 198, 222, 244, 261, 419], [292, 323, 0, 0, 0, 0, 89, 101, 114, 129, 145, 160, 180, 199, 223, 245, 262, 420], [293, 324, 0, 0, 0, 0, 0, 102, 115, 130, 146, 161, 181, 200, 224, 246, 263, 421], [294, 325, 0, 0, 0, 0, 0, 0, 116, 131, 147, 162, 182, 201, 225, 247, 264, 422], [295, 326, 0, 0, 0, 0, 0, 0, 0, 132, 148, 163, 183, 202, 226, 248, 265, 423], [296, 327, 0, 0, 0, 0, 0, 0, 0, 0, 149, 164, 184, 203, 227, 249, 266, 424], [297, 328, 0, 0, 0, 0, 0, 0, 0, 0, 0, 165, 185, 204, 228, 250, 267, 425], [298, 329, 0, 0, 0, 0, 0, 0, 0, 0, 0, 0, 186, 205, 229, 251, 268, 426], [299, 330, 0, 0, 0, 0, 0, 0, 0, 0, 0, 0, 0, 206, 230, 252, 269, 427], [300, 331, 0, 0, 0, 0, 0, 0, 0, 0, 0, 0, 0, 0, 231, 253, 270, 428], [301, 332, 0, 0, 0, 0, 0, 0, 0, 0, 0, 0, 0, 0, 0, 254, 271, 429], [302, 333, 0, 0, 0, 0, 0, 0, 0, 0, 0, 0, 0, 0, 0, 0, 272, 430], [303, 334, 0, 0, 0, 0, 0, 0, 0, 0, 0, 0, 0, 0, 0, 0, 0, 431], [0, 0, 0, 0, 0, 0, 0, 0, 0, 0, 0, 0, 0, 0, 0, 0, 0, 0]]
theorem nf_ne0 : ∀ j, j < 18 → (nePl.getD 0 []).getD j 0 ≠ 0 → nF[(nePl.getD 0 []).getD j 0]? = some (Cond.not (Cond.eq (tmS 0) (tmS j))) := by decide +kernel
theorem nf_ne1 : ∀ j, j < 18 → (nePl.getD 1 []).getD j 0 ≠ 0 → nF[(nePl.getD 1 []).getD j 0]? = some (Cond.not (Cond.eq (tmS 1) (tmS j))) := by decide +kernel
theorem nf_ne2 : ∀ j, j < 18 → (nePl.getD 2 []).getD j 0 ≠ 0 → nF[(nePl.getD 2 []).getD j 0]? = some (Cond.not (Cond.eq (tmS 2) (tmS j))) := by decide +kernel
theorem nf_ne3 : ∀ j, j < 18 → (nePl.getD 3 []).getD j 0 ≠ 0 → nF[(nePl.getD 3 []).getD j 0]? = some (Cond.not (Cond.eq (tmS 3) (tmS j))) := by decide +kernel
theorem nf_ne4 : ∀ j, j < 18 → (nePl.getD 4 []).getD j 0 ≠ 0 → nF[(nePl.getD 4 []).getD j 0]? = some (Cond.not (Cond.eq (tmS 4) (tmS j))) := by decide +kernel
theorem nf_ne5 : ∀ j, j < 18 → (nePl.getD 5 []).getD j 0 ≠ 0 → nF[(nePl.getD 5 []).getD j 0]? = some (Cond.not (Cond.eq (tmS 5) (tmS j))) := by decide +kernel
theorem nf_ne6 : ∀ j, j < 18 → (nePl.getD 6 []).getD j 0 ≠ 0 → nF[(nePl.getD 6 []).getD j 0]? = some (Cond.not (Cond.eq (tmS 6) (tmS j))) := by decide +kernel
theorem nf_ne7 : ∀ j, j < 18 → (nePl.getD 7 []).getD j 0 ≠ 0 → nF[(nePl.getD 7 []).getD j 0]? = some (Cond.not (Cond.eq (tmS 7) (tmS j))) := by decide +kernel
theorem nf_ne8 : ∀ j, j < 18 → (nePl.getD 8 []).getD j 0 ≠ 0 → nF[(nePl.getD 8 []).getD j 0]? = some (Cond.not (Cond.eq (tmS 8) (tmS j))) := by decide +kernel
theorem nf_ne9 : ∀ j, j < 18 → (nePl.getD 9 []).getD j 0 ≠ 0 → nF[(nePl.getD 9 []).getD j 0]? = some (Cond.not (Cond.eq (tmS 9) (tmS j))) := by decide +kernel
theorem nf_ne10 : ∀ j, j < 18 → (nePl.getD 10 []).getD j 0 ≠ 0 → nF[(nePl.getD 10 []).getD j 0]? = some (Cond.not (Cond.eq (tmS 10) (tmS j))) := by decide +kernel
theorem nf_ne11 : ∀ j, j < 18 → (nePl.getD 11 []).getD j 0 ≠ 0 → nF[(nePl.getD 11 []).getD j 0]? = some (Cond.not (Cond.eq (tmS 11) (tmS j))) := by decide +kernel
theorem nf_ne12 : ∀ j, j < 18 → (nePl.getD 12 []).getD j 0 ≠ 0 → nF[(nePl.getD 12 []).getD j 0]? = some (Cond.not (Cond.eq (tmS 12) (tmS j))) := by decide +kernel
theorem nf_ne13 : ∀ j, j < 18 → (nePl.getD 13 []).getD j 0 ≠ 0 → nF[(nePl.getD 13 []).getD j 0]? = some (Cond.not (Cond.eq (tmS 13) (tmS j))) := by decide +kernel
theorem nf_ne14 : ∀ j, j < 18 → (nePl.getD 14 []).getD j 0 ≠ 0 → nF[(nePl.getD 14 []).getD j 0]? = some (Cond.not (Cond.eq (tmS 14) (tmS j))) := by decide +kernel
theorem nf_ne15 : ∀ j, j < 18 → (nePl.getD 15 []).getD j 0 ≠ 0 → nF[(nePl.getD 15 []).getD j 0]? = some (Cond.not (Cond.eq (tmS 15) (tmS j))) := by decide +kernel
theorem nf_ne16 : ∀ j, j < 18 → (nePl.getD 16 []).getD j 0 ≠ 0 → nF[(nePl.getD 16 []).getD j 0]? = some (Cond.not (Cond.eq (tmS 16) (tmS j))) := by decide +kernel
theorem nf_ne17 : ∀ j, j < 18 → (nePl.getD 17 []).getD j 0 ≠ 0 → nF[(nePl.getD 17 []).getD j 0]? = some (Cond.not (Cond.eq (tmS 17) (tmS j))) := by decide +kernel
theorem nf_nz : ∀ i, i < 18 → ∀ j, j < 18 → i ≠ j → (nePl.getD i []).getD j 0 ≠ 0 ∨ (nePl.getD j []).getD i 0 ≠ 0 := by decide +kernel
theorem nf_nn : ∀ i, i < 18 → ∀ j, j < 18 → (nePl.getD i []).getD j 0 ≠ 0 → Cond.not (Cond.eq (tmS i) (tmS j)) ∈ nF := fun i hi => match i, hi with
  | 0, _ => fun j hj h => List.mem_of_getElem? (nf_ne0 j hj h)
  | 1, _ => fun j hj h => List.mem_of_getElem? (nf_ne1 j hj h)
  | 2, _ => fun j hj h => List.mem_of_getElem? (nf_ne2 j hj h)
  | 3, _ => fun j hj h => List.mem_of_getElem? (nf_ne3 j hj h)
  | 4, _ => fun j hj h => List.mem_of_getElem? (nf_ne4 j hj h)
  | 5, _ => fun j hj h => List.mem_of_getElem? (nf_ne5 j hj h)
  | 6, _ => fun j hj h => List.mem_of_getElem? (nf_ne6 j hj h)
  | 7, _ => fun j hj h => List.mem_of_getElem? (nf_ne7 j hj h)
  | 8, _ => fun j hj h => List.mem_of_getElem? (nf_ne8 j hj h)
  | 9, _ => fun j hj h => List.mem_of_getElem? (nf_ne9 j hj h)
  | 10, _ => fun j hj h => List.mem_of_getElem? (nf_ne10 j hj h)
  | 11, _ => fun j hj h => List.mem_of_getElem? (nf_ne11 j hj h)
  | 12, _ => fun j hj h => List.mem_of_getElem? (nf_ne12 j hj h)
  | 13, _ => fun j hj h => List.mem_of_getElem? (nf_ne13 j hj h)
  | 14, _ => fun j hj h => List.mem_of_getElem? (nf_ne14 j hj h)
  | 15, _ => fun j hj h => List.mem_of_getElem? (nf_ne15 j hj h)
  | 16, _ => fun j hj h => List.mem_of_getElem? (nf_ne16 j hj h)
  | 17, _ => fun j hj h => List.mem_of_getElem? (nf_ne17 j hj h)
  | n + 18, h => absurd h (by omega)
theorem nf_ne : ∀ i, i < 18 → ∀ j, j < 18 → i ≠ j → Cond.not (Cond.eq (tmS i) (tmS j)) ∈ nF ∨ Cond.not (Cond.eq (tmS j) (tmS i)) ∈ nF := fun i hi j hj hij => (nf_nz i hi j hj hij).elim (fun h => Or.inl (nf_nn i hi j hj h)) (fun h => Or.inr (nf_nn j hj i hi h))
theorem nf_sr : ∀ i, i < 18 → Cond.stringRef (gsoL.getD i "") (gsxL.getD i 0) (gstL.getD i "") ∈ lw_tbl := by decide +kernel
theorem nf_cs : Cond.eq (.static "java/lang/String" "COMPACT_STRINGS" "Z") (.int 1) ∈ nF := by decide +kernel
theorem nf_pr : Cond.isRef (.static "jdk/internal/util/Preconditions" "SIOOBE_FORMATTER" "Ljava/util/function/BiFunction;") ∈ nF := by decide +kernel
theorem nf_us : Cond.isRef (.static Bundle.tN "UNASSIGNED_STACK" Bundle.steD) ∈ nF := by decide +kernel
theorem nf_ss : Cond.isRef (.static Bundle.tN "SUPPRESSED_SENTINEL" Bundle.listD) ∈ nF := by decide +kernel
theorem nf_nc : Cond.not (.castable tNs tIo) ∈ nF := by decide +kernel
theorem nf_sa : Cond.arrayOf (.static "ReportedCases" "SETS_WITHOUT" "[I") .int ∈ nF := by decide +kernel
theorem nf_sl : Cond.eq (.length (.static "ReportedCases" "SETS_WITHOUT" "[I")) (.int 5) ∈ nF := by decide +kernel
theorem nf_sv : ∀ j, j < 5 → Cond.eq (.elem (.static "ReportedCases" "SETS_WITHOUT" "[I") (.int (Int32.ofNat j))) (.int (gswL.getD j 0)) ∈ nF := by decide +kernel
theorem nt_l1 : Cond.laysStatic "java/lang/String" "COMPACT_STRINGS" "Z" ∈ lw_tbl := by decide +kernel
theorem nt_l2 : Cond.laysStatic "jdk/internal/util/Preconditions" "SIOOBE_FORMATTER" "Ljava/util/function/BiFunction;" ∈ lw_tbl := by decide +kernel
theorem nt_l3 : Cond.laysStatic "ReportedCases" "SETS_WITHOUT" "[I" ∈ lw_tbl := by decide +kernel
theorem nt_l4 : Cond.laysStatic Bundle.tN "UNASSIGNED_STACK" Bundle.steD ∈ lw_tbl := by decide +kernel
theorem nt_l5 : Cond.laysStatic Bundle.tN "SUPPRESSED_SENTINEL" Bundle.listD ∈ lw_tbl := by decide +kernel
theorem nt_i1 : Cond.initialized "java/lang/String" ∈ lw_tbl := by decide +kernel
theorem nt_i2 : Cond.initialized "jdk/internal/util/Preconditions" ∈ lw_tbl := by decide +kernel
theorem nt_i3 : Cond.initialized "ReportedCases" ∈ lw_tbl := by decide +kernel
theorem nt_i4 : Cond.initialized Bundle.tN ∈ lw_tbl := by decide +kernel
theorem nt_dc : ∀ x ∈ gdc, Cond.declares x ∈ lw_tbl := by decide +kernel
theorem nt_c1 : Cond.castable tIo tIo ∈ lw_tbl := by decide +kernel
theorem nt_c2 : Cond.castable tNs tNs ∈ lw_tbl := by decide +kernel
theorem nt_in : ∀ k, k < 12 → ∀ q, vwCl[k]? = some q → Cond.instantiable q.1 q.2.2 ∈ lw_tbl ∧ ∀ w ∈ u_ws q.1 q.2.1 q.2.2, w ∈ lw_g := by
  intro k hk q hq
  match k, hk, hq with
  | 0, _, hq => cases hq; exact ⟨by decide +kernel, inX0⟩
  | 1, _, hq => cases hq; exact ⟨by decide +kernel, inX1⟩
  | 2, _, hq => cases hq; exact ⟨by decide +kernel, inX2⟩
  | 3, _, hq => cases hq; exact ⟨by decide +kernel, inX3⟩
  | 4, _, hq => cases hq; exact ⟨by decide +kernel, inX4⟩
  | 5, _, hq => cases hq; exact ⟨by decide +kernel, inX5⟩
  | 6, _, hq => cases hq; exact ⟨by decide +kernel, inX6⟩
  | 7, _, hq => cases hq; exact ⟨by decide +kernel, inX7⟩
  | 8, _, hq => cases hq; exact ⟨by decide +kernel, inX8⟩
  | 9, _, hq => cases hq; exact ⟨by decide +kernel, inX9⟩
  | 10, _, hq => cases hq; exact ⟨by decide +kernel, inX10⟩
  | 11, _, hq => cases hq; exact ⟨by decide +kernel, inX11⟩
  | n + 12, h, _ => exact absurd h (by omega)
theorem given {s : State} {b : Nat} (hts : ∀ w ∈ lw_tbl, w.before #[Value.ref b] s = true) (hgv : (Jvm.Cond.and given_1 narrow_1).before #[Value.ref b] s = true) : ∃ E : GE, E.1 = s.heap ∧ GK E s ∧ GT E s := by
  have hs : ∀ w ∈ nF, w.before #[Value.ref b] s = true := flat_of_before _ hgv
  have hg : ∀ w ∈ lw_g, w.before #[Value.ref b] s = true := fun w hw => hts w (List.mem_filter.mp hw).1
  have hA : ∀ a : Nat, a < s.heap.size → ¬ gA s.heap a := fun a h q => Nat.not_le.mpr h q
  -- classes
  have hk : ∀ k : Nat, ∃ z : ClassId × (Nat → Nat), ∀ q, vwCl[k]? = some q → u_Kn s q.1 q.2.1 q.2.2 z.1 z.2 := by
    intro k
    by_cases h : k < 12
    · obtain ⟨q, hq⟩ : ∃ q, vwCl[k]? = some q := ⟨_, List.getElem?_eq_getElem h⟩
      obtain ⟨h1, h2⟩ := nt_in k h q hq
      obtain ⟨c, iS, h3⟩ := u_known hg h2 (hts _ h1)
      exact ⟨(c, iS), fun q' hq' => by rw [hq] at hq'; cases hq'; exact h3⟩
    · exact ⟨(0, fun _ => 0), fun q hq => absurd (gcl_lt hq) h⟩
  obtain ⟨zf, hzf⟩ := Classical.axiomOfChoice hk
  -- arrays
  obtain ⟨cI, kI, oI, i1, i2, i3⟩ := Cond.arrayClass_spec (hg _ iaI)
  obtain ⟨cB, kB, oB, b1, b2, b3⟩ := Cond.arrayClass_spec (hg _ iaB)
  obtain ⟨cZ, kZ, oZ, z1, z2, z3⟩ := Cond.arrayClass_spec (hg _ iaZ)
  obtain ⟨cJ, kJ, oJ, j1, j2, j3⟩ := Cond.arrayClass_spec (hg _ iaJ)
  -- texts
  obtain ⟨adK, adV, hS, hev⟩ := vk_Sof (args := #[Value.ref b]) (s := s) (N := 18) (tm := tmS) (len := gsnL) (byt := gsbL) (A := gA s.heap) (by decide) (fun i hi => hs _ (nf_ex i hi)) (fun i hi => hs _ (nf_co i hi)) (fun i hi => hs _ (nf_ar i hi)) (fun i hi => hs _ (nf_le i hi)) (fun i hi j hj => hs _ (nf_el i hi j hj)) (fun i j hi hj hij => (nf_ne i hi j hj hij).elim (fun h => Or.inl (hs _ h)) (fun h => Or.inr (hs _ h))) hA
  -- statics
  obtain ⟨tS, ht, hTS⟩ := va_Tof (args := #[Value.ref b]) (s := s) (tm := .static "ReportedCases" "SETS_WITHOUT" "[I") (ty := .int) (N := 5) (f := fun j => .int (gswL.getD j 0)) (A := gA s.heap) (by decide) (hs _ nf_sa) (va_eqt (hs _ nf_sl)) (fun j hj => va_eqt (hs _ (nf_sv j hj))) hA
  refine ⟨(s.heap, (fun k => (zf k).1, fun k => (zf k).2), (fun i => if i = 0 then cI else if i = 1 then cB else if i = 2 then cZ else cJ), adK, adV, tS), rfl, ⟨⟨fun k q hq => hzf k q hq, fun k q hq => ?_⟩, fun w hw => ?_, ⟨hS, fun i hi => ?_, ?_, ?_, ?_, hTS⟩⟩, ⟨?_, ?_, ?_, fun x hx => ?_, ?_, ?_⟩⟩
  · have hk4 : k < 4 := (List.getElem?_eq_some_iff.mp hq).1
    match k, hk4, hq with
    | 0, _, hq => cases hq; exact ⟨fun n z => ⟨fun k h => (by cases h), kI, i2, oI, i3⟩, i1⟩
    | 1, _, hq => cases hq; exact ⟨fun n z => ⟨fun k h => (by cases h), kB, b2, oB, b3⟩, b1⟩
    | 2, _, hq => cases hq; exact ⟨fun n z => ⟨fun k h => (by cases h), kZ, z2, oZ, z3⟩, z1⟩
    | 3, _, hq => cases hq; exact ⟨fun n z => ⟨fun k h => (by cases h), kJ, j2, oJ, j3⟩, j1⟩
    | n + 4, h, _ => exact absurd h (by omega)
  · have h1 := hts w (List.mem_filter.mp hw).1
    have h2 := (List.mem_filter.mp hw).2
    cases w with
    | methodLinkNest a i x hh => exact va_tabs rfl rfl h1
    | fieldLinkNest a i b n d hh => exact va_tabs rfl rfl h1
    | _ => cases h2
  · exact vk_R.of (A := #[]) (by have := hts _ (nf_sr i hi); exact this) (by have := hev i hi; exact this)
  · exact va_Zof (hts _ nt_l1) (hts _ nt_i1) (va_eqt (hs _ nf_cs)) hA
  · exact va_Zqof (hts _ nt_l2) (hts _ nt_i2) (hs _ nf_pr) hA
  · exact va_Zof (hts _ nt_l3) (hts _ nt_i3) ht hA
  · exact vx_Zqof (hts _ nt_l4) (hts _ nt_i4) (hs _ nf_us) hA
  · exact vx_Zqof (hts _ nt_l5) (hts _ nt_i4) (hs _ nf_ss) hA
  · exact va_Nc.of (hs _ nf_nc)
  · exact va_tabs rfl rfl (hts _ (nt_dc x hx))
  · exact va_tabs rfl rfl (hts _ nt_c1)
  · exact va_tabs rfl rfl (hts _ nt_c2)

/-! ===== pure: part 9zr: the start ===== -/
theorem y_inv0 : y_inv L0 M0 172 := by
  have z : ∀ q ∈ ([(2, 2), (154, 2), (2, 3), (154, 20), (1, 11), (1, 12), (1, 13), (154, 19), (154, 49), (154, 38), (154, 25), (162, 76), (162, 1), (162, 0), (162, 74), (162, 75), (19, 2), (19, 3), (19, 4), (20, 3), (20, 4), (20, 5), (31, 1), (31, 2), (153, 0), (153, 1), (153, 2), (153, 3), (153, 4), (167, 0), (167, 1), (167, 2), (167, 3), (167, 4)] : List (Nat × Nat)), M0 (q.1 : Int) (q.2 : Int) = 0 := by decide +kernel
  have e22 : M0 2 2 = 0 := z (2, 2) (by decide)
  have m2 : M0 154 2 = 0 := z (154, 2) (by decide)
  have e23 : M0 2 3 = 0 := z (2, 3) (by decide)
  have m20 : M0 154 20 = 0 := z (154, 20) (by decide)
  have a11 : M0 1 11 = 0 := z (1, 11) (by decide)
  have a12 : M0 1 12 = 0 := z (1, 12) (by decide)
  have a13 : M0 1 13 = 0 := z (1, 13) (by decide)
  have m19 : M0 154 19 = 0 := z (154, 19) (by decide)
  have m49 : M0 154 49 = 0 := z (154, 49) (by decide)
  have m38 : M0 154 38 = 0 := z (154, 38) (by decide)
  have m25 : M0 154 25 = 0 := z (154, 25) (by decide)
  have w76 : M0 162 76 = 0 := z (162, 76) (by decide)
  have w1 : M0 162 1 = 0 := z (162, 1) (by decide)
  have w0 : M0 162 0 = 0 := z (162, 0) (by decide)
  have w74 : M0 162 74 = 0 := z (162, 74) (by decide)
  have w75 : M0 162 75 = 0 := z (162, 75) (by decide)
  have s2 : M0 19 2 = 0 := z (19, 2) (by decide)
  have s3 : M0 19 3 = 0 := z (19, 3) (by decide)
  have s4 : M0 19 4 = 0 := z (19, 4) (by decide)
  have d3 : M0 20 3 = 0 := z (20, 3) (by decide)
  have d4 : M0 20 4 = 0 := z (20, 4) (by decide)
  have d5 : M0 20 5 = 0 := z (20, 5) (by decide)
  have r1 : M0 31 1 = 0 := z (31, 1) (by decide)
  have r2 : M0 31 2 = 0 := z (31, 2) (by decide)
  have m32 : M0 154 32 = 99 := by decide +kernel
  have lay := lay0
  have ptr := ptr0
  refine ⟨⟨lay, ptr, by decide⟩, ⟨⟨by omega, by omega, fun i i0 i1 => by omega⟩, by omega, fun i i0 i1 => by omega⟩, ⟨by omega, fun l l0 l1 => by omega⟩, ⟨⟨by omega, by omega, by omega⟩, Or.inl m19, Or.inl m49, Or.inl m38, fun _ => ⟨m20, m49, m38, m25, w76, w1⟩, fun c => by omega⟩, ?_, fun c => by omega, ⟨⟨by omega, by omega, by omega, by omega, by omega⟩, fun j j0 j1 => by omega⟩, fun c => by omega, fun i i0 i1 => ?_, m32⟩
  · refine ⟨⟨lay 19 (by decide), lay 24 (by decide)⟩, ⟨ptr (19, 0, 20) (by decide +kernel), ptr (19, 1, 24) (by decide +kernel), by omega, by omega, by omega⟩, ⟨by omega, by omega, by omega, by omega⟩, ⟨⟨lay 20 (by decide), ⟨ptr (20, 0, 21) (by decide +kernel), ptr (20, 1, 22) (by decide +kernel), ptr (20, 2, 23) (by decide +kernel)⟩, lay 21 (by decide), lay 22 (by decide), lay 23 (by decide)⟩, ⟨d3.trans m20.symm, d4.trans w1.symm, d5.trans w0.symm⟩, fun p p0 p1 => by omega⟩, ⟨by omega, by omega, fun p p0 p1 => by omega⟩, fun l l0 l1 => by omega, fun g g0 g1 => by omega⟩
  · have hi : i = 0 ∨ i = 1 ∨ i = 2 ∨ i = 3 ∨ i = 4 := by omega
    rcases hi with c | c | c | c | c <;> rw [c]
    · exact (z (153, 0) (by decide)).trans (z (167, 0) (by decide)).symm
    · exact (z (153, 1) (by decide)).trans (z (167, 1) (by decide)).symm
    · exact (z (153, 2) (by decide)).trans (z (167, 2) (by decide)).symm
    · exact (z (153, 3) (by decide)).trans (z (167, 3) (by decide)).symm
    · exact (z (153, 4) (by decide)).trans (z (167, 4) (by decide)).symm
/-- the law answers 1 at every input -/
theorem y_law1 (X : Int → Int) {len : Int} (h : 0 ≤ len ∧ len ≤ 3072) : Lw_law FU X len = some 1 := by
  rw [law_start]
  exact y_law (fu := FU) (by decide) h 520 FU 172 L0 M0 0 (by omega) (by decide) (Int.le_refl 0) (by omega) (by decide) y_inv0

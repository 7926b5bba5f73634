/-! ===== pure: part 58 ===== -/
/-! ===== pure: worlds of the class ===== -/
/-- a World lies at a, its rows at B, D, P -/
def WL (L : zL) (M : zM) (a B D P : Int) : Prop := L a = (11, 0) ∧ (M a 0 = B ∧ M a 1 = D ∧ M a 2 = P) ∧ L B = (101, 24) ∧ L D = (101, 24) ∧ L P = (101, 24)
section WDS
variable {fu : Nat} {L : zL} {M : zM} {a B D P : Int}
theorem Wd_has_ok (h : WL L M a B D P) (h24 : M a 4 ≤ 24) (p : Int) : Wd_has fu L M a p = some (if 0 ≤ p ∧ p < M a 4 then 1 else 0) := by
  unfold Wd_has
  by_cases h0 : p < 0
  · rw [if_pos h0, if_neg (by omega)]
  · rw [if_neg h0, h.1, if_pos rfl]
    by_cases h1 : p < M a 4
    · rw [if_pos h1, if_pos (by omega), if_pos (by omega)]
    · rw [if_neg h1, if_neg (by omega)]
theorem Wd_bornIn_ok (h : WL L M a B D P) (h24 : M a 4 ≤ 24) (p : Int) : Wd_bornIn fu L M a p = some (if 0 ≤ p ∧ p < M a 4 then M B p else 0) := by
  obtain ⟨w1, ⟨w2, w3, w4⟩, w5, w6, w7⟩ := h
  unfold Wd_bornIn
  by_cases h0 : p < 0
  · rw [if_pos h0, if_neg (by omega)]
  · rw [if_neg h0, w1, if_pos rfl]
    by_cases h1 : p < M a 4
    · have h2 : p < ((101, 24) : Int × Int).2 := by show p < 24; omega
      rw [if_pos h1, w2, w5, if_pos rfl, if_pos h2, if_pos ⟨by omega, h2⟩, if_pos (by omega)]
    · rw [if_neg h1, if_neg (by omega)]
theorem Wd_diedIn_ok (h : WL L M a B D P) (h24 : M a 4 ≤ 24) (p : Int) : Wd_diedIn fu L M a p = some (if 0 ≤ p ∧ p < M a 4 then M D p else -1000000) := by
  obtain ⟨w1, ⟨w2, w3, w4⟩, w5, w6, w7⟩ := h
  unfold Wd_diedIn
  by_cases h0 : p < 0
  · rw [if_pos h0, if_neg (by omega)]
  · rw [if_neg h0, w1, if_pos rfl]
    by_cases h1 : p < M a 4
    · have h2 : p < ((101, 24) : Int × Int).2 := by show p < 24; omega
      rw [if_pos h1, w3, w6, if_pos rfl, if_pos h2, if_pos ⟨by omega, h2⟩, if_pos (by omega)]
    · rw [if_neg h1, if_neg (by omega)]
theorem Wd_parentOf_ok (h : WL L M a B D P) (h24 : M a 4 ≤ 24) (p : Int) : Wd_parentOf fu L M a p = some (if 0 ≤ p ∧ p < M a 4 then M P p else -1) := by
  obtain ⟨w1, ⟨w2, w3, w4⟩, w5, w6, w7⟩ := h
  unfold Wd_parentOf
  by_cases h0 : p < 0
  · rw [if_pos h0, if_neg (by omega)]
  · rw [if_neg h0, w1, if_pos rfl]
    by_cases h1 : p < M a 4
    · have h2 : p < ((101, 24) : Int × Int).2 := by show p < 24; omega
      rw [if_pos h1, w4, w7, if_pos rfl, if_pos h2, if_pos ⟨by omega, h2⟩, if_pos (by omega)]
    · rw [if_neg h1, if_neg (by omega)]
end WDS

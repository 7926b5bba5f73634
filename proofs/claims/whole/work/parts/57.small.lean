/-! ===== pure: part 57 ===== -/
/-! ===== pure: end ===== -/
theorem Lx_end_ok {fu : Nat} {L : zL} {M : zM} (hL : Lay L) (hP : Ptr M) (n : Int) : Lx_end fu L M 1 n = some (if 0 ≤ n ∧ n ≤ M 2 2 then (mu M 2 2 n, 1) else (M, 0)) := by
  have l1 : L 1 = (12, 0) := hL 1 (by decide)
  have l2 : L 2 = (8, 0) := hL 2 (by decide)
  have p : M 1 0 = 2 := hP (1, 0, 2) (by decide)
  unfold Lx_end
  by_cases h0 : n < 0
  · rw [if_pos h0, if_neg (by omega)]
  · rw [if_neg h0, l1, if_pos rfl, p, l2, if_pos rfl]
    by_cases h1 : M 2 2 < n
    · rw [if_pos h1, if_neg (by omega)]
    · rw [if_neg h1, if_pos (by omega)]; rfl
theorem Mo_end_ok {fu : Nat} {L : zL} {M : zM} (hL : Lay L) (n : Int) : Mo_end0 fu L M 154 n = some (if 0 ≤ n ∧ n ≤ M 154 2 then (mu (mu M 154 0 0) 154 2 n, 1) else (mu M 154 0 0, 0)) := by
  have l4 : L 154 = (13, 0) := hL 154 (by decide)
  have e : mu M 154 0 0 154 2 = M 154 2 := mx_ne (by omega)
  unfold Mo_end0
  rw [l4, if_pos rfl, lt1_def, e]
  unfold Mo_in
  by_cases h0 : n < 0
  · rw [if_pos h0, bd1_some, if_pos rfl, if_neg (by omega)]
  · rw [if_neg h0]
    by_cases h1 : M 154 2 < n
    · rw [if_pos h1, bd1_some, if_pos rfl, if_neg (by omega)]
    · rw [if_neg h1, bd1_some, if_neg (show ¬ (1 : Int) = 0 by decide), if_pos (by omega)]; rfl
/-! size, status -/
theorem Lx_size_ok {fu : Nat} {L : zL} {M : zM} (hL : Lay L) (hP : Ptr M) (w : Int) : Lx_size fu L M 1 w = some (if w = 0 then M 2 2 else if w = 1 then M 31 2 else -1) := by
  have l1 : L 1 = (12, 0) := hL 1 (by decide)
  have l2 : L 2 = (8, 0) := hL 2 (by decide)
  have l31 : L 31 = (1, 0) := hL 31 (by decide)
  have p : M 1 0 = 2 := hP (1, 0, 2) (by decide)
  have p6 : M 1 6 = 31 := hP (1, 6, 31) (by decide +kernel)
  unfold Lx_size
  by_cases h0 : w = 0
  · rw [if_pos h0, l1, if_pos rfl, p, l2, if_pos rfl, if_pos h0]
  · rw [if_neg h0, if_neg h0]
    by_cases h1 : w = 1
    · rw [if_pos h1, l1, if_pos rfl, p6, l31, if_pos rfl, if_pos h1]
    · rw [if_neg h1, if_neg h1]
theorem Mo_size_ok {fu : Nat} {L : zL} {M : zM} (hL : Lay L) (w : Int) : Mo_size fu L M 154 w = some (mu M 154 0 0, if w = 0 then M 154 2 else if w = 1 then M 154 25 else -1) := by
  have l4 : L 154 = (13, 0) := hL 154 (by decide)
  have e2 : mu M 154 0 0 154 2 = M 154 2 := mx_ne (by omega)
  have e25 : mu M 154 0 0 154 25 = M 154 25 := mx_ne (by omega)
  unfold Mo_size
  rw [l4, if_pos rfl, lt1_def, e2, e25]
  by_cases h0 : w = 0
  · rw [if_pos h0, if_pos h0]
  · rw [if_neg h0, if_neg h0]
    by_cases h1 : w = 1
    · rw [if_pos h1, if_pos h1]
    · rw [if_neg h1, if_neg h1]
theorem Lx_status_ok {fu : Nat} {L : zL} {M : zM} (hL : Lay L) (hP : Ptr M) (w : Int) : Lx_status fu L M 1 w = some (if 0 ≤ w ∧ w ≤ 4 then M 153 w else -1) := by
  have l1 : L 1 = (12, 0) := hL 1 (by decide)
  have l53 : L 153 = (101, 5) := hL 153 (by decide)
  have p : M 1 10 = 153 := hP (1, 10, 153) (by decide +kernel)
  unfold Lx_status
  by_cases h0 : w < 0
  · rw [if_pos h0, if_neg (by omega)]
  · rw [if_neg h0, l1, if_pos rfl, p, l53, if_pos rfl]
    by_cases h1 : w < 5
    · rw [if_pos (show w < ((101, 5) : Int × Int).2 from h1), if_pos (show 0 ≤ w ∧ w < ((101, 5) : Int × Int).2 from ⟨by omega, h1⟩), if_pos (by omega)]
    · rw [if_neg (show ¬ w < ((101, 5) : Int × Int).2 from h1), if_neg (by omega)]
theorem Mo_status_ok {fu : Nat} {L : zL} {M : zM} (hL : Lay L) (hP : Ptr M) (w : Int) : Mo_status fu L M 154 w = some (mu M 154 0 0, if 0 ≤ w ∧ w ≤ 4 then M 167 w else -1) := by
  have l4 : L 154 = (13, 0) := hL 154 (by decide)
  have l67 : L 167 = (101, 5) := hL 167 (by decide)
  have p : M 154 26 = 167 := hP (154, 26, 167) (by decide +kernel)
  have e : mu M 154 0 0 154 26 = 167 := by rw [mx_ne (by omega), p]
  have e2 : mu M 154 0 0 167 w = M 167 w := mx_ne (by omega)
  unfold Mo_status
  rw [l4, if_pos rfl, lt1_def]
  unfold Mo_in
  by_cases h0 : w < 0
  · rw [if_pos h0, bd1_some, if_pos rfl, if_neg (by omega)]
  · rw [if_neg h0]
    by_cases h1 : 4 < w
    · rw [if_pos h1, bd1_some, if_pos rfl, if_neg (by omega)]
    · rw [if_neg h1, bd1_some, if_neg (show ¬ (1 : Int) = 0 by decide), e, l67, if_pos rfl, if_pos (show 0 ≤ w ∧ w < ((101, 5) : Int × Int).2 by show 0 ≤ w ∧ w < 5; omega), e2, if_pos (by omega)]

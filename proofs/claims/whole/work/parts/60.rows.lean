/-! ===== pure: part 60: what the model says of a row ===== -/
section
variable {fu : Nat} {L : zL} {N : zM} {x sz lv : Int}
theorem Mr_isIn (hx : L x = (101, sz)) (hs : 74 ≤ sz) (v : WV lv (N x)) (p : Int) : Mo_isIn fu L N x p = some (if 0 ≤ p ∧ p < N x 1 then 1 else 0) := by
  have hw := v.1
  have ew : w32 (N x 1 - 1) = N x 1 - 1 := w32_id (by omega)
  unfold Mo_isIn Mo_in
  simp (disch := omega) only [hx, ↓reduceIte, if_pos, ew]
  by_cases h0 : p < 0
  · rw [if_pos h0, bd1_some, if_neg (by omega)]
  · by_cases h1 : N x 1 - 1 < p
    · rw [if_neg h0, if_pos h1, bd1_some, if_neg (by omega)]
    · rw [if_neg h0, if_neg h1, bd1_some, if_pos (by omega)]
theorem Mr_whyNotBorn (hx : L x = (101, sz)) (hs : 74 ≤ sz) (v : WV lv (N x)) (p : Int) : Mo_whyNotBorn fu L N x p = some (y_wNB (N x) p) := by
  have hw := v.1
  have hy := v.2.1
  unfold Mo_whyNotBorn y_wNB
  rw [Mr_isIn hx hs v, bd1_some]
  by_cases c : 0 ≤ p ∧ p < N x 1
  · have hv := v.2.2 p c.1 c.2
    have e2 : w32 (2 + p) = 2 + p := w32_id (by omega)
    have e26 : w32 (26 + p) = 26 + p := w32_id (by omega)
    have ew : w32 (N x 0 - N x (2 + p)) = N x 0 - N x (2 + p) := w32_id (by omega)
    simp (disch := omega) only [hx, ↓reduceIte, if_pos, if_neg, e2, e26, ew]
    (repeat' split) <;> first | rfl | omega
  · rw [if_neg c, if_pos rfl, if_pos c]
theorem Mr_lastDeath (hf : 400 ≤ fu) (l4 : L 154 = (13, 0)) (h20 : N 154 20 = lv) (hx : L x = (101, sz)) (hs : 74 ≤ sz) (v : WV lv (N x)) : Mo_lastDeath fu L N 154 x = some (y_last lv (N x)) := by
  have hw := v.1
  refine y_lp (F := fun n s i => Mo_lastDeath_l4 fu L n N 154 x s i) (N := lv) (fun _ _ => True) (fun n s i h0 hN _ => ?_) (fun n s i hN _ => ?_) lv.toNat fu (-1) 0 (by omega) (by omega) (by omega) trivial
  · show (∃ r, _ ∧ Mo_lastDeath_s4 _ _ _ _ _ _ _ _ = _) ∨ (_ ∧ Mo_lastDeath_s4 _ _ _ _ _ _ _ _ = _ ∧ _)
    unfold Mo_lastDeath_s4
    have ew : w32 (i + 1) = i + 1 := w32_id (by omega)
    have e26 : w32 (26 + i) = 26 + i := w32_id (by omega)
    simp (disch := omega) only [l4, h20, hx, ↓reduceIte, if_pos, e26, ew, lt1_def]
    by_cases c : N x (26 + i) = 16777216
    · refine Or.inl ⟨-1, by rw [if_pos c], ?_⟩
      rw [if_pos c]
    · refine Or.inr ⟨by rw [if_neg c], ?_, trivial⟩
      rw [if_neg c]
  · show Mo_lastDeath_s4 _ _ _ _ _ _ _ _ = _
    unfold Mo_lastDeath_s4
    rw [l4, if_pos rfl, if_neg (by omega)]; rfl
theorem Mr_end (hf : 400 ≤ fu) (l4 : L 154 = (13, 0)) (h20 : N 154 20 = lv) (hx : L x = (101, sz)) (hs : 74 ≤ sz) (v : WV lv (N x)) (l62 : L 162 = (101, 2597)) (p18 : N 154 18 = 162) (hp : 0 ≤ N 162 74 ∧ N 162 74 ≤ 99) : Mo_end1 fu L N 154 x = some (y_end lv (N 162 74) (N x)) := by
  have b := y_last_b v
  have ew : w32 (y_last lv (N x) + N 162 74) = y_last lv (N x) + N 162 74 := w32_id (by omega)
  unfold Mo_end1 y_end
  rw [Mr_lastDeath hf l4 h20 hx hs v, bd1_some]
  simp (disch := omega) only [l4, p18, l62, ↓reduceIte, if_pos, ew]
  by_cases c : y_last lv (N x) = -1
  · rw [if_pos c, if_pos c]
  · rw [if_neg c, if_neg c]
end

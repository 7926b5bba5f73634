/-! ===== pure: part 61: counts over PERSONS, both sides ===== -/
def y_set (lv : Int) (w : Int → Int) : Int := y_fo (fun i s => if w (26 + i) = 16777216 then ior s (ishl 1 i) else s) lv.toNat 0 0
def y_kids (w : Int → Int) (p : Int) : Int := y_fo (fun i s => if w (50 + i) = p then s + 1 else s) (w 1).toNat 0 0
def y_full (w : Int → Int) : Int := y_fo (fun i s => if y_kids w s < y_kids w i then i else s) ((w 1).toNat - 1) 1 0
def y_old (w : Int → Int) : Int := y_fo (fun i s => if w (26 + i) = 16777216 ∧ (s = -1 ∨ w (2 + i) < w (2 + s)) then i else s) (w 1).toNat 0 (-1)
def y_liv (w : Int → Int) : Int := y_fo (fun i s => if w (26 + i) = 16777216 then s + 1 else s) (w 1).toNat 0 0
def y_age (w : Int → Int) : Int := y_fo (fun i s => if w (26 + i) = 16777216 then s else max s (min (w (26 + i)) (w 0) - w (2 + i))) (w 1).toNat 0 (-1)
theorem ior_zero {x : Int} (h : InR x) : ior x 0 = x := by
  unfold ior zO
  have e : Int32.ofInt 0 = 0 := rfl
  rw [e, Int32.or_zero]
  exact Int32.toInt_ofInt_of_le h.1 h.2
section
variable {fu : Nat} {L : zL} {M : zM} {a B D P lv : Int} {w : Int → Int}
theorem Wr_livingLives (hf : 400 ≤ fu) (h : WR L M a B D P lv w) (v : WV lv w) : Wd_livingLives fu L M a = some (y_set lv w) := by
  have e1 := h.1.1
  have e2 := h.2.1.1
  have hw := v.1
  refine y_lp0 (F := fun n s i => Wd_livingLives_l4 fu L n M a s i) (fin := id) (N := lv) (fun _ _ => True) (fun n s i h0 hN _ => ?_) (fun n s i hN _ => ?_) lv.toNat fu 0 0 (by omega) (by omega) (by omega) trivial
  · refine ⟨?_, trivial⟩
    show Wd_livingLives_s4 _ _ _ _ _ _ _ = _
    unfold Wd_livingLives_s4
    have h1 : i < w 1 := by omega
    have ew : w32 (i + 1) = i + 1 := w32_id (by omega)
    simp only [e1, e2, hN, h0, h1, Wr_isAlive h v, true_and, bd1_some, ↓reduceIte, lt1_def, ew]
    by_cases c : w (26 + i) = 16777216
    · rw [if_pos c, if_pos c, if_neg (by decide)]
    · rw [if_neg c, if_neg c, if_pos rfl]
  · show Wd_livingLives_s4 _ _ _ _ _ _ _ = _
    unfold Wd_livingLives_s4
    rw [e1, if_pos rfl, if_neg (by omega)]; rfl
theorem Wr_childrenOf (hf : 400 ≤ fu) (h : WR L M a B D P lv w) (v : WV lv w) (p : Int) : Wd_childrenOf fu L M a p = some (y_kids w p) := by
  have e1 := h.1.1
  have e2 := h.2.1.2.1
  have hw := v.1
  refine y_lp0 (F := fun n s i => Wd_childrenOf_l4 fu L n M a p s i) (fin := id) (N := w 1) (fun i s => 0 ≤ s ∧ s ≤ i) (fun n s i h0 hN hI => ?_) (fun n s i hN _ => ?_) (w 1).toNat fu 0 0 (by omega) (by omega) (by omega) (by omega)
  · show Wd_childrenOf_s4 _ _ _ _ _ _ _ _ = _ ∧ _
    unfold Wd_childrenOf_s4
    have ew : w32 (i + 1) = i + 1 := w32_id (by omega)
    have es : w32 (s + 1) = s + 1 := w32_id (by omega)
    simp only [e1, e2, hN, h0, Wr_parentOf h v, and_self, bd1_some, ↓reduceIte, lt1_def, ew, es]
    by_cases c : w (50 + i) = p
    · rw [if_pos c, if_pos c]; exact ⟨rfl, by omega⟩
    · rw [if_neg c, if_neg c]; exact ⟨rfl, by omega⟩
  · show Wd_childrenOf_s4 _ _ _ _ _ _ _ _ = _
    unfold Wd_childrenOf_s4
    rw [e1, if_pos rfl, if_neg (by omega)]; rfl
theorem Wr_mostChildren (hf : 400 ≤ fu) (h : WR L M a B D P lv w) (v : WV lv w) (h1 : 1 ≤ w 1) : Wd_mostChildren fu L M a = some (y_full w) := by
  have e1 := h.1.1
  have e2 := h.2.1.2.1
  have hw := v.1
  refine y_lp0 (F := fun n s i => Wd_mostChildren_l4 fu L n M a s i) (fin := id) (N := w 1) (fun i s => True) (fun n s i h0 hN hI => ?_) (fun n s i hN _ => ?_) ((w 1).toNat - 1) fu 0 1 (by omega) (by omega) (by omega) trivial
  · refine ⟨?_, trivial⟩
    show Wd_mostChildren_s4 _ _ _ _ _ _ _ = _
    unfold Wd_mostChildren_s4
    have ew : w32 (i + 1) = i + 1 := w32_id (by omega)
    simp only [e1, e2, hN, Wr_childrenOf hf h v, bd1_some, ↓reduceIte, lt1_def, ew]
    (repeat' split) <;> first | rfl | omega
  · show Wd_mostChildren_s4 _ _ _ _ _ _ _ = _
    unfold Wd_mostChildren_s4
    rw [e1, if_pos rfl, if_neg (by omega)]; rfl
theorem Wr_oldestLiving (hf : 400 ≤ fu) (h : WR L M a B D P lv w) (v : WV lv w) : Wd_oldestLiving fu L M a = some (y_old w) := by
  have e1 := h.1.1
  have e2 := h.2.1.2.1
  have hw := v.1
  refine y_lp0 (F := fun n s i => Wd_oldestLiving_l4 fu L n M a s i) (fin := id) (N := w 1) (fun i s => -1 ≤ s ∧ s < i) (fun n s i h0 hN hI => ?_) (fun n s i hN _ => ?_) (w 1).toNat fu (-1) 0 (by omega) (by omega) (by omega) (by omega)
  · show Wd_oldestLiving_s4 _ _ _ _ _ _ _ = _ ∧ _
    refine ⟨?_, by split <;> omega⟩
    unfold Wd_oldestLiving_s4
    have ew : w32 (i + 1) = i + 1 := w32_id (by omega)
    simp only [e1, e2, hN, h0, Wr_isAlive h v, Wr_bornIn h v, true_and, and_self, bd1_some, ↓reduceIte, lt1_def, ew]
    by_cases c : w (26 + i) = 16777216
    · by_cases c1 : s = -1
      · simp only [c, c1, ↓reduceIte, true_and, true_or]; rfl
      · have c2 : 0 ≤ s ∧ s < w 1 := by omega
        simp only [c, c1, c2, ↓reduceIte, true_and, false_or, and_self]
        (repeat' split) <;> first | rfl | omega
    · simp only [c, ↓reduceIte, false_and]
  · show Wd_oldestLiving_s4 _ _ _ _ _ _ _ = _
    unfold Wd_oldestLiving_s4
    rw [e1, if_pos rfl, if_neg (by omega)]; rfl
theorem Wr_livingPersons (hf : 400 ≤ fu) (h : WR L M a B D P lv w) (v : WV lv w) : Wd_livingPersons fu L M a = some (y_liv w) := by
  have e1 := h.1.1
  have e2 := h.2.1.2.1
  have hw := v.1
  refine y_lp0 (F := fun n s i => Wd_livingPersons_l4 fu L n M a s i) (fin := id) (N := w 1) (fun i s => 0 ≤ s ∧ s ≤ i) (fun n s i h0 hN hI => ?_) (fun n s i hN _ => ?_) (w 1).toNat fu 0 0 (by omega) (by omega) (by omega) (by omega)
  · show Wd_livingPersons_s4 _ _ _ _ _ _ _ = _ ∧ _
    refine ⟨?_, by split <;> omega⟩
    unfold Wd_livingPersons_s4
    have ew : w32 (i + 1) = i + 1 := w32_id (by omega)
    have es : w32 (s + 1) = s + 1 := w32_id (by omega)
    simp only [e1, e2, hN, h0, Wr_isAlive h v, true_and, bd1_some, ↓reduceIte, lt1_def, ew, es]
    by_cases c : w (26 + i) = 16777216
    · rw [if_pos c, if_pos c, if_neg (by decide)]
    · rw [if_neg c, if_neg c, if_pos rfl]
  · show Wd_livingPersons_s4 _ _ _ _ _ _ _ = _
    unfold Wd_livingPersons_s4
    rw [e1, if_pos rfl, if_neg (by omega)]; rfl
theorem Wr_greatestAge (hf : 400 ≤ fu) (h : WR L M a B D P lv w) (v : WV lv w) : Wd_greatestAge fu L M a = some (y_age w) := by
  have e1 := h.1.1
  have e2 := h.2.1.2.1
  have hw := v.1
  refine y_lp0 (F := fun n s i => Wd_greatestAge_l4 fu L n M a s i) (fin := id) (N := w 1) (fun i s => True) (fun n s i h0 hN hI => ?_) (fun n s i hN _ => ?_) (w 1).toNat fu (-1) 0 (by omega) (by omega) (by omega) trivial
  · refine ⟨?_, trivial⟩
    show Wd_greatestAge_s4 _ _ _ _ _ _ _ = _
    unfold Wd_greatestAge_s4
    have ew : w32 (i + 1) = i + 1 := w32_id (by omega)
    simp only [e1, e2, hN, h0, Wr_isAlive h v, Wr_ageOf h v h0 hN, true_and, bd1_some, ↓reduceIte, lt1_def, ew]
    by_cases c : w (26 + i) = 16777216
    · rw [if_pos c, if_pos c, if_neg (by decide)]
    · rw [if_neg c, if_neg c, if_pos rfl]
  · show Wd_greatestAge_s4 _ _ _ _ _ _ _ = _
    unfold Wd_greatestAge_s4
    rw [e1, if_pos rfl, if_neg (by omega)]; rfl
end
section
variable {fu : Nat} {L : zL} {N : zM} {x sz lv : Int}
theorem Mr_living (hf : 400 ≤ fu) (hx : L x = (101, sz)) (hs : 74 ≤ sz) (v : WV lv (N x)) : Mo_living fu L N x lv = some (y_set lv (N x)) := by
  have hw := v.1
  refine y_lp0 (F := fun n s i => Mo_living_l4 fu L n N x lv s i) (fin := id) (N := lv) (fun _ s => InR s) (fun n s i h0 hN hI => ?_) (fun n s i hN _ => ?_) lv.toNat fu 0 0 (by omega) (by omega) (by omega) (by decide)
  · show Mo_living_s4 _ _ _ _ _ _ _ _ = _ ∧ _
    unfold Mo_living_s4
    have ew : w32 (i + 1) = i + 1 := w32_id (by omega)
    have e26 : w32 (26 + i) = 26 + i := w32_id (by omega)
    simp (disch := omega) only [hx, ↓reduceIte, if_pos, hN, e26, ew, lt1_def, ior_zero hI]
    by_cases c : N x (26 + i) = 16777216
    · rw [if_pos c, if_pos c]; exact ⟨rfl, inR_ior _ _⟩
    · rw [if_neg c, if_neg c]; exact ⟨rfl, hI⟩
  · show Mo_living_s4 _ _ _ _ _ _ _ _ = _
    unfold Mo_living_s4
    rw [if_neg (by omega)]; rfl
variable (l4 : L 154 = (13, 0)) (l62 : L 162 = (101, 2597)) (p18 : N 154 18 = 162)
theorem Mr_children (hf : 400 ≤ fu) (l4 : L 154 = (13, 0)) (l62 : L 162 = (101, 2597)) (p18 : N 154 18 = 162) (v : WV lv (N 162)) (p : Int) : Mo_children fu L N 154 p = some (y_kids (N 162) p) := by
  have hw := v.1
  refine y_lp0 (F := fun n s i => Mo_children_l4 fu L n N 154 p s i) (fin := id) (N := N 162 1) (fun i s => 0 ≤ s ∧ s ≤ i) (fun n s i h0 hN hI => ?_) (fun n s i hN _ => ?_) (N 162 1).toNat fu 0 0 (by omega) (by omega) (by omega) (by omega)
  · show Mo_children_s4 _ _ _ _ _ _ _ _ = _ ∧ _
    refine ⟨?_, by split <;> omega⟩
    unfold Mo_children_s4
    have ew : w32 (i + 1) = i + 1 := w32_id (by omega)
    have es : w32 (s + 1) = s + 1 := w32_id (by omega)
    have e0 : w32 (s + 0) = s := by rw [w32_id (by omega)]; omega
    have e50 : w32 (50 + i) = 50 + i := w32_id (by omega)
    simp (disch := omega) only [l4, l62, p18, ↓reduceIte, if_pos, hN, e50, ew, es, e0, lt1_def]
    (repeat' split) <;> first | rfl | omega
  · show Mo_children_s4 _ _ _ _ _ _ _ _ = _
    unfold Mo_children_s4
    simp (disch := omega) only [l4, l62, p18, ↓reduceIte, if_pos, if_neg]; rfl
theorem Mr_fullest (hf : 400 ≤ fu) (l4 : L 154 = (13, 0)) (l62 : L 162 = (101, 2597)) (p18 : N 154 18 = 162) (v : WV lv (N 162)) (h1 : 1 ≤ N 162 1) : Mo_fullest fu L N 154 = some (y_full (N 162)) := by
  have hw := v.1
  refine y_lp0 (F := fun n s i => Mo_fullest_l4 fu L n N 154 s i) (fin := id) (N := N 162 1) (fun i s => True) (fun n s i h0 hN hI => ?_) (fun n s i hN _ => ?_) ((N 162 1).toNat - 1) fu 0 1 (by omega) (by omega) (by omega) trivial
  · refine ⟨?_, trivial⟩
    show Mo_fullest_s4 _ _ _ _ _ _ _ = _
    unfold Mo_fullest_s4
    have ew : w32 (i + 1) = i + 1 := w32_id (by omega)
    simp (disch := omega) only [l4, l62, p18, ↓reduceIte, if_pos, hN, ew, lt1_def, Mr_children hf l4 l62 p18 v, bd1_some]
    (repeat' split) <;> first | rfl | omega
  · show Mo_fullest_s4 _ _ _ _ _ _ _ = _
    unfold Mo_fullest_s4
    simp (disch := omega) only [l4, l62, p18, ↓reduceIte, if_pos, if_neg]; rfl
theorem Mr_oldest (hf : 400 ≤ fu) (l4 : L 154 = (13, 0)) (l62 : L 162 = (101, 2597)) (p18 : N 154 18 = 162) (v : WV lv (N 162)) : Mo_oldest fu L N 154 = some (y_old (N 162)) := by
  have hw := v.1
  refine y_lp0 (F := fun n s i => Mo_oldest_l4 fu L n N 154 s i) (fin := id) (N := N 162 1) (fun i s => -1 ≤ s ∧ s < i) (fun n s i h0 hN hI => ?_) (fun n s i hN _ => ?_) (N 162 1).toNat fu (-1) 0 (by omega) (by omega) (by omega) (by omega)
  · show Mo_oldest_s4 _ _ _ _ _ _ _ = _ ∧ _
    refine ⟨?_, by split <;> omega⟩
    unfold Mo_oldest_s4
    have ew : w32 (i + 1) = i + 1 := w32_id (by omega)
    have e2 : w32 (2 + i) = 2 + i := w32_id (by omega)
    have e26 : w32 (26 + i) = 26 + i := w32_id (by omega)
    have e2s : w32 (2 + s) = 2 + s := w32_id (by omega)
    simp (disch := omega) only [l4, l62, p18, ↓reduceIte, if_pos, hN, e2, e26, e2s, ew, lt1_def]
    by_cases c1 : s = -1
    · simp only [c1, ↓reduceIte, true_or, and_true]
      (repeat' split) <;> rfl
    · simp (disch := omega) only [c1, ↓reduceIte, if_pos, false_or]
      (repeat' split) <;> first | rfl | omega
  · show Mo_oldest_s4 _ _ _ _ _ _ _ = _
    unfold Mo_oldest_s4
    simp (disch := omega) only [l4, l62, p18, ↓reduceIte, if_pos, if_neg]; rfl
theorem Mr_alive (hf : 400 ≤ fu) (l4 : L 154 = (13, 0)) (l62 : L 162 = (101, 2597)) (p18 : N 154 18 = 162) (v : WV lv (N 162)) : Mo_alive fu L N 154 = some (y_liv (N 162)) := by
  have hw := v.1
  refine y_lp0 (F := fun n s i => Mo_alive_l4 fu L n N 154 s i) (fin := id) (N := N 162 1) (fun i s => 0 ≤ s ∧ s ≤ i) (fun n s i h0 hN hI => ?_) (fun n s i hN _ => ?_) (N 162 1).toNat fu 0 0 (by omega) (by omega) (by omega) (by omega)
  · show Mo_alive_s4 _ _ _ _ _ _ _ = _ ∧ _
    refine ⟨?_, by split <;> omega⟩
    unfold Mo_alive_s4
    have ew : w32 (i + 1) = i + 1 := w32_id (by omega)
    have es : w32 (s + 1) = s + 1 := w32_id (by omega)
    have e0 : w32 (s + 0) = s := by rw [w32_id (by omega)]; omega
    have e26 : w32 (26 + i) = 26 + i := w32_id (by omega)
    simp (disch := omega) only [l4, l62, p18, ↓reduceIte, if_pos, hN, e26, ew, es, e0, lt1_def]
    (repeat' split) <;> first | rfl | omega
  · show Mo_alive_s4 _ _ _ _ _ _ _ = _
    unfold Mo_alive_s4
    simp (disch := omega) only [l4, l62, p18, ↓reduceIte, if_pos, if_neg]; rfl
theorem Mr_ageOf (l4 : L 154 = (13, 0)) (l62 : L 162 = (101, 2597)) (p18 : N 154 18 = 162) (v : WV lv (N 162)) {p : Int} (h0 : 0 ≤ p) (h1 : p < N 162 1) : Mo_ageOf fu L N 154 p = some (min (N 162 (26 + p)) (N 162 0) - N 162 (2 + p)) := by
  have hw := v.1
  have hy := v.2.1
  have hv := v.2.2 p h0 h1
  have e2 : w32 (2 + p) = 2 + p := w32_id (by omega)
  have e26 : w32 (26 + p) = 26 + p := w32_id (by omega)
  have er : w32 (min (N 162 (26 + p)) (N 162 0) - N 162 (2 + p)) = min (N 162 (26 + p)) (N 162 0) - N 162 (2 + p) := w32_id (by omega)
  unfold Mo_ageOf
  simp (disch := omega) only [l4, l62, p18, ↓reduceIte, if_pos, e2, e26, er]
theorem Mr_greatestAge (hf : 400 ≤ fu) (l4 : L 154 = (13, 0)) (l62 : L 162 = (101, 2597)) (p18 : N 154 18 = 162) (v : WV lv (N 162)) : Mo_greatestAge fu L N 154 = some (y_age (N 162)) := by
  have hw := v.1
  refine y_lp0 (F := fun n s i => Mo_greatestAge_l4 fu L n N 154 s i) (fin := id) (N := N 162 1) (fun i s => True) (fun n s i h0 hN hI => ?_) (fun n s i hN _ => ?_) (N 162 1).toNat fu (-1) 0 (by omega) (by omega) (by omega) trivial
  · refine ⟨?_, trivial⟩
    show Mo_greatestAge_s4 _ _ _ _ _ _ _ = _
    unfold Mo_greatestAge_s4
    have ew : w32 (i + 1) = i + 1 := w32_id (by omega)
    have e26 : w32 (26 + i) = 26 + i := w32_id (by omega)
    simp (disch := omega) only [l4, l62, p18, ↓reduceIte, if_pos, hN, e26, ew, lt1_def, Mr_ageOf l4 l62 p18 v h0 hN, bd1_some]
    (repeat' split) <;> first | rfl | omega
  · show Mo_greatestAge_s4 _ _ _ _ _ _ _ = _
    unfold Mo_greatestAge_s4
    simp (disch := omega) only [l4, l62, p18, ↓reduceIte, if_pos, if_neg]; rfl
end

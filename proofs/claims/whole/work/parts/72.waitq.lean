/-! ===== pure: part 72: what the class says of a look ===== -/
def y_kd (en y : Int) : Int := if 0 ≤ y then (if en ≠ -1 ∧ en < y then 1 else 0) else if y = -2 then 2 else if y = -1 then 3 else -1
def y_ct (fy : Int → Int) (en n what : Int) : Int := y_fo (fun p s => if y_kd en (fy p) = what then s + 1 else s) n.toNat 0 0
def y_mem (fy : Int → Int) (n : Int) : Int := y_fo (fun p s => if fy p = -3 then s else s + 1) n.toNat 0 0
def y_mat (fy : Int → Int) (n k : Int) : Int := y_fe (fun p s => if fy p = -3 then s else s + 1) (fun p s => if fy p ≠ -3 ∧ s = k then some p else none) (fun _ => -1) n.toNat 0 0
def y_cmp (sg cv nat : Int) : Int := if sg = 0 ∧ cv = -1 ∧ nat = -1 then 0 else 1
def y_std (fy : Int → Int) (n now en cp : Int) : Int := if 0 < y_ct fy en n 1 ∨ (en ≠ -1 ∧ en < now ∧ 0 < y_ct fy en n 3) then 2 else if cp = 0 ∨ 0 < y_ct fy en n 3 then 0 else if y_ct fy en n 2 = y_mem fy n then 3 else 1
def y_ahd (fy : Int → Int) (p : Int) : Int := y_fo (fun q s => if fy q < 0 then s else s + 1) p.toNat 0 0
def y_dv (am pa ah : Int) : Int := if ah < w32 (Int.tmod am pa) then w32 (w32 (Int.tdiv am pa) + 1) else w32 (w32 (Int.tdiv am pa) + 0)
def y_shr (fy : Int → Int) (n en cp p am : Int) : Int := if cp = 0 then -1 else if y_ct fy en n 0 + y_ct fy en n 1 = 0 then -1 else if fy p < 0 then 0 else y_dv am (y_ct fy en n 0 + y_ct fy en n 1) (y_ahd fy p)
theorem y_fo_cnt {c : Int → Prop} [DecidablePred c] : ∀ (k : Nat) (i s : Int), s ≤ y_fo (fun p s => if c p then s + 1 else s) k i s ∧ y_fo (fun p s => if c p then s + 1 else s) k i s ≤ s + k
  | 0, i, s => ⟨Int.le_refl _, by show s ≤ s + (0 : Nat); omega⟩
  | k + 1, i, s => by
    unfold y_fo
    by_cases h : c i
    · rw [if_pos h]
      have := y_fo_cnt (c := c) k (i + 1) (s + 1)
      omega
    · rw [if_neg h]
      have := y_fo_cnt (c := c) k (i + 1) s
      omega
theorem y_ct_b (fy : Int → Int) {en n what : Int} (hn : 0 ≤ n ∧ n ≤ 24) : 0 ≤ y_ct fy en n what ∧ y_ct fy en n what ≤ 24 := by
  have := y_fo_cnt (c := fun p => y_kd en (fy p) = what) n.toNat 0 0
  unfold y_ct
  omega
section
variable {fu : Nat} {L : zL} {M : zM} {n now en cv nat sg : Int} {fy : Int → Int}
theorem Wt_yearOf_ok (hL : Lay L) (hP : Ptr M) (h : y_wt M n now en cv nat sg fy) {p : Int} (p0 : 0 ≤ p) (p1 : p < n) : Wt_yearOf fu L M 140 p = some (fy p) := by
  have l40 : L 140 = (10, 0) := hL 140 (by decide)
  have l41 : L 141 = (101, 24) := hL 141 (by decide)
  have q1 : M 140 1 = 141 := hP (140, 1, 141) (by decide +kernel)
  have p24 : p < 24 := by have := h.2.2; omega
  have pn : ¬ p < 0 := by omega
  unfold Wt_yearOf
  simp only [pn, l40, h.1.1, p1, p24, q1, l41, p0, and_self, ↓reduceIte, h.2.1 p p0 p1]
theorem Wt_membersInAll_ok (hf : 400 ≤ fu) (hL : Lay L) (hP : Ptr M) (h : y_wt M n now en cv nat sg fy) : Wt_membersInAll fu L M 140 = some (y_mem fy n) := by
  have l40 : L 140 = (10, 0) := hL 140 (by decide)
  have hn := h.2.2
  refine y_lp0 (F := fun n s i => Wt_membersInAll_l4 fu L n M 140 s i) (fin := id) (N := n) (fun i s => 0 ≤ s ∧ s ≤ i) (fun k s i h0 hN hI => ?_) (fun k s i hN _ => ?_) n.toNat fu 0 0 (by omega) (by omega) (by omega) (by omega)
  · show Wt_membersInAll_s4 _ _ _ _ _ _ _ = _ ∧ _
    refine ⟨?_, by split <;> omega⟩
    unfold Wt_membersInAll_s4
    have ew : w32 (i + 1) = i + 1 := w32_id (by omega)
    have es : w32 (s + 1) = s + 1 := w32_id (by omega)
    simp only [l40, h.1.1, hN, Wt_yearOf_ok hL hP h h0 hN, ↓reduceIte, bd1_some, ↓lt1_def, ew, es]
    (repeat' split) <;> first | rfl | omega
  · show Wt_membersInAll_s4 _ _ _ _ _ _ _ = _
    unfold Wt_membersInAll_s4
    rw [l40, if_pos rfl, h.1.1, if_neg (by omega)]; rfl
theorem Wt_memberAt_ok (hf : 400 ≤ fu) (hL : Lay L) (hP : Ptr M) (h : y_wt M n now en cv nat sg fy) (x : Int) : Wt_memberAt fu L M 140 x = some (y_mat fy n x) := by
  have l40 : L 140 = (10, 0) := hL 140 (by decide)
  have hn := h.2.2
  refine y_lp (F := fun n s i => Wt_memberAt_l4 fu L n M 140 x s i) (N := n) (fun i s => 0 ≤ s ∧ s ≤ i) (fun k s i h0 hN hI => ?_) (fun k s i hN _ => ?_) n.toNat fu 0 0 (by omega) (by omega) (by omega) (by omega)
  · show (∃ r, _ ∧ Wt_memberAt_s4 _ _ _ _ _ _ _ _ = _) ∨ (_ ∧ Wt_memberAt_s4 _ _ _ _ _ _ _ _ = _ ∧ _)
    unfold Wt_memberAt_s4
    have ew : w32 (i + 1) = i + 1 := w32_id (by omega)
    have es : w32 (s + 1) = s + 1 := w32_id (by omega)
    simp only [l40, h.1.1, hN, Wt_yearOf_ok hL hP h h0 hN, ↓reduceIte, bd1_some, ↓lt1_def, ew, es]
    by_cases c : fy i = -3
    · refine Or.inr ⟨by rw [if_neg (fun z => z.1 c)], ?_, ?_⟩
      · rw [if_pos c, if_pos c]
      · rw [if_pos c]; omega
    · by_cases c1 : s = x
      · refine Or.inl ⟨i, by rw [if_pos ⟨c, c1⟩], ?_⟩
        rw [if_neg c, if_pos c1]
      · refine Or.inr ⟨by rw [if_neg (fun z => c1 z.2)], ?_, ?_⟩
        · rw [if_neg c, if_neg c1, if_neg c]
        · rw [if_neg c]; omega
  · show Wt_memberAt_s4 _ _ _ _ _ _ _ _ = _
    unfold Wt_memberAt_s4
    rw [l40, if_pos rfl, h.1.1, if_neg (by omega)]
theorem Wt_kindOf_ok (hL : Lay L) (h : y_wt M n now en cv nat sg fy) (y : Int) : Wt_kindOf fu L M 140 y = some (y_kd en y) := by
  have l40 : L 140 = (10, 0) := hL 140 (by decide)
  unfold Wt_kindOf y_kd
  simp only [l40, h.1.2.2.1, ↓reduceIte]
  (repeat' split) <;> first | rfl | omega
theorem Wt_tally_ok (hf : 400 ≤ fu) (hL : Lay L) (hP : Ptr M) (h : y_wt M n now en cv nat sg fy) {x : Int} (hx : 0 ≤ x ∧ x ≤ 3) : Wt_tally fu L M 140 x = some (y_ct fy en n x) := by
  have l40 : L 140 = (10, 0) := hL 140 (by decide)
  have hn := h.2.2
  unfold Wt_tally
  rw [if_neg (by omega), if_neg (by omega)]
  refine y_lp0 (F := fun n s i => Wt_tally_l15 fu L n M 140 x s i) (fin := id) (N := n) (fun i s => 0 ≤ s ∧ s ≤ i) (fun k s i h0 hN hI => ?_) (fun k s i hN _ => ?_) n.toNat fu 0 0 (by omega) (by omega) (by omega) (by omega)
  · show Wt_tally_s15 _ _ _ _ _ _ _ _ = _ ∧ _
    refine ⟨?_, by split <;> omega⟩
    unfold Wt_tally_s15
    have ew : w32 (i + 1) = i + 1 := w32_id (by omega)
    have es : w32 (s + 1) = s + 1 := w32_id (by omega)
    simp only [l40, h.1.1, hN, Wt_yearOf_ok hL hP h h0 hN, Wt_kindOf_ok hL h, ↓reduceIte, bd1_some, ↓lt1_def, ew, es]
    (repeat' split) <;> first | rfl | omega
  · show Wt_tally_s15 _ _ _ _ _ _ _ _ = _
    unfold Wt_tally_s15
    rw [l40, if_pos rfl, h.1.1, if_neg (by omega)]; rfl
theorem Wt_complete_ok (hL : Lay L) (h : y_wt M n now en cv nat sg fy) : Wt_complete fu L M 140 = some (y_cmp sg cv nat) := by
  have l40 : L 140 = (10, 0) := hL 140 (by decide)
  unfold Wt_complete y_cmp
  simp only [l40, h.1.2.2.2.1, h.1.2.2.2.2.1, h.1.2.2.2.2.2, ↓reduceIte]
  (repeat' split) <;> first | rfl | omega
theorem Wt_standing_ok (hf : 400 ≤ fu) (hL : Lay L) (hP : Ptr M) (h : y_wt M n now en cv nat sg fy) : Wt_standing fu L M 140 = some (y_std fy n now en (y_cmp sg cv nat)) := by
  have l40 : L 140 = (10, 0) := hL 140 (by decide)
  have t : ∀ x, 0 ≤ x ∧ x ≤ 3 → Wt_tally fu L M 140 x = some (y_ct fy en n x) := fun x hx => Wt_tally_ok hf hL hP h hx
  unfold Wt_standing Wt_standing_b30 Wt_standing_b49 y_std
  simp only [l40, h.1.2.1, h.1.2.2.1, ↓reduceIte, t 3 (by omega), t 1 (by omega), t 2 (by omega), Wt_complete_ok hL h, Wt_membersInAll_ok hf hL hP h, bd1_some, Int.reduceEq]
  (repeat' split) <;> first | rfl | omega
theorem Wt_partOf_ok (hf : 400 ≤ fu) (hL : Lay L) (hP : Ptr M) (h : y_wt M n now en cv nat sg fy) {p am : Int} (p0 : 0 ≤ p) (p1 : p < n) : Wt_partOf fu L M 140 p am = some (y_shr fy n en (y_cmp sg cv nat) p am) := by
  have l40 : L 140 = (10, 0) := hL 140 (by decide)
  have hn := h.2.2
  have b0 := y_ct_b fy (en := en) (what := 0) hn
  have b1 := y_ct_b fy (en := en) (what := 1) hn
  have e := w32_id (x := y_ct fy en n 0 + y_ct fy en n 1) (by omega)
  have hl : y_ct fy en n 0 + y_ct fy en n 1 ≠ 0 → Wt_partOf_l41 fu L fu M 140 p am (y_ct fy en n 0 + y_ct fy en n 1) 0 0 = some (y_dv am (y_ct fy en n 0 + y_ct fy en n 1) (y_ahd fy p)) := fun hne => by
    have hb : ∀ s, Wt_partOf_b74 fu L M am (y_ct fy en n 0 + y_ct fy en n 1) s = some (y_dv am (y_ct fy en n 0 + y_ct fy en n 1) s) := fun s => by
      unfold Wt_partOf_b74 y_dv
      rw [if_pos hne, if_pos hne]
      split <;> rfl
    refine y_lp0 (F := fun k s i => Wt_partOf_l41 fu L k M 140 p am (y_ct fy en n 0 + y_ct fy en n 1) s i) (fin := fun s => y_dv am (y_ct fy en n 0 + y_ct fy en n 1) s) (N := p) (fun i s => 0 ≤ s ∧ s ≤ i) (fun k s i h0 hN hI => ?_) (fun k s i hN _ => ?_) p.toNat fu 0 0 (by omega) (by omega) (by omega) (by omega)
    · show Wt_partOf_s41 _ _ _ _ _ _ _ _ _ _ = _ ∧ _
      refine ⟨?_, by split <;> omega⟩
      unfold Wt_partOf_s41
      have ew : w32 (i + 1) = i + 1 := w32_id (by omega)
      have es : w32 (s + 1) = s + 1 := w32_id (by omega)
      have hN2 : i < n := by omega
      simp only [l40, h.1.1, hN, hN2, Wt_yearOf_ok hL hP h h0 hN2, ↓reduceIte, bd1_some, ↓lt1_def, ew, es]
      (repeat' split) <;> first | rfl | omega
    · show Wt_partOf_s41 _ _ _ _ _ _ _ _ _ _ = _
      unfold Wt_partOf_s41
      rw [if_neg (by omega)]
      exact hb s
  unfold Wt_partOf y_shr
  simp only [l40, ↓reduceIte, Wt_tally_ok hf hL hP h (x := 0) (by omega), Wt_tally_ok hf hL hP h (x := 1) (by omega), bd1_some, ↓lt1_def, e, Wt_complete_ok hL h, Wt_yearOf_ok hL hP h p0 p1]
  by_cases c0 : y_cmp sg cv nat = 0
  · rw [if_pos c0, if_pos c0]
  · rw [if_neg c0, if_neg c0]
    by_cases c1 : y_ct fy en n 0 + y_ct fy en n 1 = 0
    · rw [if_neg (by omega), if_pos c1]
    · rw [if_pos (by omega), if_neg c1]
      by_cases c2 : fy p < 0
      · rw [if_pos c2, if_pos c2]
      · rw [if_neg c2, if_neg c2]
        exact hl c1
end

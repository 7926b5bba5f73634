/-! ===== pure: part 79: calls that ask of the family and of the story ===== -/
theorem y_off.trans' {M N T : zM} (h' : y_off N T) (h : y_off M N) : y_off M T := h.trans h'
/-- the same of a call of the class that leaves the memory as it is -/
def y_sam1 (L : zL) (M : zM) (c : zM → Option Int) (m : zM → Option (zM × Int)) : Prop := ∃ r M2, c M = some r ∧ m M = some (M2, r) ∧ y_off M M2
theorem y_sam1.mk {L : zL} {M M2 : zM} {c : zM → Option Int} {m : zM → Option (zM × Int)} {r : Int} (h3 : y_off M M2) (h1 : c M = some r) (h2 : m M = some (M2, r)) : y_sam1 L M c m := ⟨r, M2, h1, h2, h3⟩
section
variable {fu : Nat} {L : zL} {M : zM} {top : Int}
theorem y_inv.tale (I : y_inv L M top) (h : M 154 38 = 1) : WR L M 129 130 131 132 (M 154 20) (M 168) ∧ WV (M 154 20) (M 168) ∧ M 1 14 = M 154 39 := I.2.2.2.2.2.2.2.1 h
theorem y_inv.mrT (I : y_inv L M top) (h : M 154 38 = 1) : y_mr L M 168 (M 154 20) (M 168) :=
  ⟨⟨74, I.lay 168 (by decide), by omega⟩, Or.inr rfl, rfl, (I.tale h).2.1, rfl⟩
theorem c_storyState (hf : 400 ≤ fu) (I : y_inv L M top) (g : Int) : y_same L M (fun M => Lx_storyState fu L M 1 g) (fun M => Mo_storyState fu L M 154 g) := by
  have l1 : L 1 = (12, 0) := I.lay 1 (by decide)
  have l4 : L 154 = (13, 0) := I.lay 154 (by decide)
  have l19 : L 19 = (2, 0) := I.lay 19 (by decide)
  have l40 : L 140 = (10, 0) := I.lay 140 (by decide)
  have p4 : M 1 4 = 19 := I.ptr (1, 4, 19) (by decide +kernel)
  have p7 : M 1 7 = 129 := I.ptr (1, 7, 129) (by decide +kernel)
  have p8 : M 1 8 = 140 := I.ptr (1, 8, 140) (by decide +kernel)
  have e3 : M 19 3 = M 162 74 := I.2.2.2.2.1.2.1.2.2.2.1
  have e13 : M 1 13 = M 154 38 := I.2.2.2.1.1.2.2
  have z38 := I.2.2.2.1.2.2.2.1
  have m38 : mu M 154 0 0 154 38 = M 154 38 := mx_ne (by omega)
  by_cases h : M 154 19 = 1 ∧ 0 ≤ g ∧ g < M 162 76
  · obtain ⟨ga, st, e, wh, li, K, Q, A, F, ⟨g1, g2, g3, _⟩, hl, hm⟩ := y_gift hf I h
    by_cases h38 : M 154 38 = 1
    · obtain ⟨t1, t2, t3⟩ := I.tale h38
      obtain ⟨M1, a1, a2, a3⟩ := hl y_wa129 t1 t2
      have o2 := a2.trans (y_off0 M1)
      obtain ⟨M2, b1, b2⟩ := Mo_stateOf_ok (fu := fu) hf (hm _ o2) ((I.mrT h38).off o2) (y_perO I o2)
      apply y_same.mk (M1 := M1) (M2 := M2) (o2.trans b2)
      · show Lx_storyState fu L M 1 g = _
        unfold Lx_storyState Lx_waitAside
        rw [l1, if_pos rfl, if_pos rfl, p4, l19, if_pos rfl, g1, bd1_some, if_neg g2, e13, if_neg (by omega), p8, l40, if_pos rfl, p7, e3, a1, bd1_some, bd2_some, if_neg (by decide), y_8 I a2, l40, if_pos rfl, Wt_standing_ok hf I.lay (a2.ptr I.ptr) a3, bd1_some]
      · show Mo_storyState fu L M1 154 g = _
        unfold Mo_storyState
        rw [l4, if_pos rfl, lt1_def, o2 154 38 (by omega), if_neg (by omega), y_isG I o2, if_pos h, bd1_some, if_neg (by decide), y_37 I o2, b1, bd2_some]
    · refine y_same.mk (M1 := M) (M2 := mu M 154 0 0) (r := -1) (y_off0 M) ?_ ?_
      · show Lx_storyState fu L M 1 g = _
        unfold Lx_storyState Lx_waitAside
        rw [l1, if_pos rfl, if_pos rfl, p4, l19, if_pos rfl, g1, bd1_some, if_neg g2, e13, if_pos (by omega), bd2_some, if_pos rfl]
      · show Mo_storyState fu L M 154 g = _
        unfold Mo_storyState
        rw [l4, if_pos rfl, lt1_def, m38, if_pos (by omega)]
  · refine y_same.mk (M1 := M) (M2 := mu M 154 0 0) (r := -1) (y_off0 M) ?_ ?_
    · show Lx_storyState fu L M 1 g = _
      unfold Lx_storyState Lx_waitAside
      rw [l1, if_pos rfl, if_pos rfl, p4, l19, if_pos rfl, Af_giftAt_n I h, bd1_some, if_pos rfl, bd2_some, if_pos rfl]
    · show Mo_storyState fu L M 154 g = _
      unfold Mo_storyState
      rw [l4, if_pos rfl, lt1_def, y_isG I (y_off0 M), if_neg h, bd1_some, if_pos rfl, ite_self]
theorem c_storyVests (hf : 400 ≤ fu) (I : y_inv L M top) (g p : Int) : y_same L M (fun M => Lx_storyVests fu L M 1 g p) (fun M => Mo_storyVests fu L M 154 g p) := by
  have l1 : L 1 = (12, 0) := I.lay 1 (by decide)
  have l4 : L 154 = (13, 0) := I.lay 154 (by decide)
  have l19 : L 19 = (2, 0) := I.lay 19 (by decide)
  have l29 : L 129 = (11, 0) := I.lay 129 (by decide)
  have l40 : L 140 = (10, 0) := I.lay 140 (by decide)
  have l68 : L 168 = (101, 74) := I.lay 168 (by decide)
  have p4 : M 1 4 = 19 := I.ptr (1, 4, 19) (by decide +kernel)
  have p7 : M 1 7 = 129 := I.ptr (1, 7, 129) (by decide +kernel)
  have p8 : M 1 8 = 140 := I.ptr (1, 8, 140) (by decide +kernel)
  have e3 : M 19 3 = M 162 74 := I.2.2.2.2.1.2.1.2.2.2.1
  have e13 : M 1 13 = M 154 38 := I.2.2.2.1.1.2.2
  have z38 := I.2.2.2.1.2.2.2.1
  have m38 : mu M 154 0 0 154 38 = M 154 38 := mx_ne (by omega)
  by_cases h38 : M 154 38 = 1
  · obtain ⟨t1, t2, t3⟩ := I.tale h38
    have hI : ∀ {N : zM}, y_off M N → Mo_isIn fu L N 168 p = some (if 0 ≤ p ∧ p < M 168 1 then 1 else 0) := fun o => by
      have hh := Mr_isIn (fu := fu) (p := p) l68 (by omega) ((I.off o).tale ((o _ _ (by omega)).trans h38)).2.1
      rw [o 168 1 (by omega)] at hh
      exact hh
    by_cases hp : 0 ≤ p ∧ p < M 168 1
    · by_cases h : M 154 19 = 1 ∧ 0 ≤ g ∧ g < M 162 76
      · obtain ⟨ga, st, e, wh, li, K, Q, A, F, ⟨g1, g2, g3, _⟩, hl, hm⟩ := y_gift hf I h
        obtain ⟨M1, a1, a2, a3⟩ := hl y_wa129 t1 t2
        have o2 := a2.trans (y_off0 M1)
        obtain ⟨M2, b1, b2⟩ := Mo_vestsIn_ok (fu := fu) hf (hm _ o2) ((I.mrT h38).off o2) hp.1 hp.2
        apply y_same.mk (M1 := M1) (M2 := M2) (o2.trans b2)
        · show Lx_storyVests fu L M 1 g p = _
          unfold Lx_storyVests Lx_waitAside
          rw [l1, if_pos rfl, if_pos rfl, p7, l29, if_pos rfl, Wr_has t1 t2, if_pos hp, bd1_some, if_neg (by decide), p4, l19, if_pos rfl, g1, bd1_some, if_neg g2, e13, if_neg (by omega), p8, l40, if_pos rfl, e3, a1, bd1_some, bd2_some, if_neg (by decide), y_8 I a2, l40, if_pos rfl, Wt_yearOf_ok I.lay (a2.ptr I.ptr) a3 hp.1 hp.2, bd1_some]
        · show Mo_storyVests fu L M1 154 g p = _
          unfold Mo_storyVests
          rw [l4, if_pos rfl, lt1_def, o2 154 38 (by omega), if_neg (by omega), y_isG I o2, if_pos h, bd1_some, if_neg (by decide), y_37 I o2, hI o2, if_pos hp, bd1_some, if_neg (by decide), b1, bd2_some]
      · refine y_same.mk (M1 := M) (M2 := mu M 154 0 0) (r := -1000000) (y_off0 M) ?_ ?_
        · show Lx_storyVests fu L M 1 g p = _
          unfold Lx_storyVests Lx_waitAside
          rw [l1, if_pos rfl, if_pos rfl, p7, l29, if_pos rfl, Wr_has t1 t2, if_pos hp, bd1_some, if_neg (by decide), p4, l19, if_pos rfl, Af_giftAt_n I h, bd1_some, if_pos rfl, bd2_some, if_pos rfl]
        · show Mo_storyVests fu L M 154 g p = _
          unfold Mo_storyVests
          rw [l4, if_pos rfl, lt1_def, m38, if_neg (by omega), y_isG I (y_off0 M), if_neg h, bd1_some, if_pos rfl]
    · refine y_same.mk (M1 := M) (M2 := mu M 154 0 0) (r := -1000000) (y_off0 M) ?_ ?_
      · show Lx_storyVests fu L M 1 g p = _
        unfold Lx_storyVests
        rw [l1, if_pos rfl, p7, l29, if_pos rfl, Wr_has t1 t2, if_neg hp, bd1_some, if_pos rfl]
      · show Mo_storyVests fu L M 154 g p = _
        unfold Mo_storyVests
        rw [l4, if_pos rfl, lt1_def, m38, if_neg (by omega), y_isG I (y_off0 M), bd1_some, y_37 I (y_off0 M), hI (y_off0 M), if_neg hp, bd1_some, if_pos rfl]
        split <;> rfl
  · have hmo : Mo_storyVests fu L M 154 g p = some (mu M 154 0 0, -1000000) := by
      unfold Mo_storyVests
      rw [l4, if_pos rfl, lt1_def, m38, if_pos (by omega)]
    have hx : ∃ r, Wd_has fu L M 129 p = some r := by
      unfold Wd_has
      rw [l29]
      (repeat' split) <;> first | exact ⟨_, rfl⟩ | (rename_i hh; exact absurd rfl hh)
    obtain ⟨r, hr⟩ := hx
    have hg : ∃ r, Af_giftAt fu L M 19 g = some r := by
      by_cases h : M 154 19 = 1 ∧ 0 ≤ g ∧ g < M 162 76
      · obtain ⟨ga, st, e, wh, li, K, Q, A, F, ⟨g1, _⟩, _⟩ := y_gift hf I h
        exact ⟨ga, g1⟩
      · exact ⟨0, Af_giftAt_n I h⟩
    obtain ⟨q, hq⟩ := hg
    refine y_same.mk (M1 := M) (M2 := mu M 154 0 0) (r := -1000000) (y_off0 M) ?_ hmo
    show Lx_storyVests fu L M 1 g p = _
    unfold Lx_storyVests Lx_waitAside
    rw [l1, if_pos rfl, if_pos rfl, p7, l29, if_pos rfl, hr, bd1_some]
    by_cases r0 : r = 0
    · rw [if_pos r0]
    · rw [if_neg r0, p4, l19, if_pos rfl, hq, bd1_some]
      by_cases q0 : q = 0
      · rw [if_pos q0, bd2_some, if_pos rfl]
      · rw [if_neg q0, e13, if_pos (by omega), bd2_some, if_pos rfl]
theorem c_storied (hf : 400 ≤ fu) (I : y_inv L M top) (k : Int) : y_sam1 L M (fun M => Lx_storied fu L M 1 k) (fun M => Mo_storied fu L M 154 k) := by
  have l1 : L 1 = (12, 0) := I.lay 1 (by decide)
  have l4 : L 154 = (13, 0) := I.lay 154 (by decide)
  have l19 : L 19 = (2, 0) := I.lay 19 (by decide)
  have l29 : L 129 = (11, 0) := I.lay 129 (by decide)
  have l68 : L 168 = (101, 74) := I.lay 168 (by decide)
  have l62 : L 162 = (101, 2597) := I.lay 162 (by decide)
  have p4 : M 1 4 = 19 := I.ptr (1, 4, 19) (by decide +kernel)
  have p7 : M 1 7 = 129 := I.ptr (1, 7, 129) (by decide +kernel)
  have e3 : M 19 3 = M 162 74 := I.2.2.2.2.1.2.1.2.2.2.1
  have e13 : M 1 13 = M 154 38 := I.2.2.2.1.1.2.2
  have z38 := I.2.2.2.1.2.2.2.1
  have o := y_off0 M
  have m38 : mu M 154 0 0 154 38 = M 154 38 := mx_ne (by omega)
  have m20 : mu M 154 0 0 154 20 = M 154 20 := mx_ne (by omega)
  have m39 : mu M 154 0 0 154 39 = M 154 39 := mx_ne (by omega)
  have m68 : mu M 154 0 0 168 = M 168 := o.row fun i => by omega
  have m62 : mu M 154 0 0 162 = M 162 := o.row fun i => by omega
  by_cases h38 : M 154 38 = 1
  · obtain ⟨t1, t2, t3⟩ := I.tale h38
    have v2 : WV (M 154 20) (mu M 154 0 0 168) := by rw [m68]; exact t2
    have he := Mr_end (fu := fu) (N := mu M 154 0 0) hf l4 m20 l68 (by omega) v2 l62 (y_18 I o) (by rw [m62]; exact y_per I)
    have hl := Mr_living (fu := fu) (N := mu M 154 0 0) hf l68 (by omega) v2
    rw [m62, m68] at he
    rw [m68] at hl
    refine y_sam1.mk (M2 := mu M 154 0 0) (r := if k = 0 then M 168 0 else if k = 1 then M 168 1 else if k = 2 then M 154 39 else if k = 3 then y_end (M 154 20) (M 162 74) (M 168) else if k = 4 then y_set (M 154 20) (M 168) else -1) o ?_ ?_
    · show Lx_storied fu L M 1 k = _
      unfold Lx_storied
      rw [l1, if_pos rfl, e13, if_neg (by omega), p7, l29, if_pos rfl, if_pos rfl, if_pos rfl, if_pos rfl, p4, l19, if_pos rfl, e3, Wr_theEnd hf t1 t2 (y_per I), bd1_some, Wr_livingLives hf t1 t2, bd1_some, t1.2.1.2.1, t1.2.1.2.2, t3]
      (repeat' split) <;> rfl
    · show Mo_storied fu L M 154 k = _
      have g1 : (0 : Int) ≤ 0 ∧ (0 : Int) < 74 := by omega
      have g2 : (0 : Int) ≤ 1 ∧ (1 : Int) < 74 := by omega
      unfold Mo_storied
      rw [l4, if_pos rfl, lt1_def, m38, if_neg (by omega), y_37 I o, l68, if_pos rfl, if_pos rfl, if_pos g1, if_pos g2, m39, he, bd1_some, m20, hl, bd1_some, m68]
      (repeat' split) <;> rfl
  · refine y_sam1.mk (M2 := mu M 154 0 0) (r := -1) o ?_ ?_
    · show Lx_storied fu L M 1 k = _
      unfold Lx_storied
      rw [l1, if_pos rfl, e13, if_pos (by omega)]
    · show Mo_storied fu L M 154 k = _
      unfold Mo_storied
      rw [l4, if_pos rfl, lt1_def, m38, if_pos (by omega)]
theorem c_rule (hf : 400 ≤ fu) (I : y_inv L M top) (k : Int) : y_sam1 L M (fun M => Lx_rule fu L M 1 k) (fun M => Mo_rule fu L M 154 k) := by
  have l1 : L 1 = (12, 0) := I.lay 1 (by decide)
  have l4 : L 154 = (13, 0) := I.lay 154 (by decide)
  have l19 : L 19 = (2, 0) := I.lay 19 (by decide)
  have l20 : L 20 = (11, 0) := I.lay 20 (by decide)
  have l62 : L 162 = (101, 2597) := I.lay 162 (by decide)
  have p4 : M 1 4 = 19 := I.ptr (1, 4, 19) (by decide +kernel)
  have p0 : M 19 0 = 20 := I.ptr (19, 0, 20) (by decide +kernel)
  have hra := I.2.2.2.2.1.2.1
  have e2 : M 19 2 = M 162 76 := hra.2.2.1
  have e3 : M 19 3 = M 162 74 := hra.2.2.2.1
  have e4 : M 19 4 = M 162 75 := hra.2.2.2.2
  have e11 : M 1 11 = M 154 19 := I.2.2.2.1.1.1
  have o := y_off0 M
  have m19 : mu M 154 0 0 154 19 = M 154 19 := mx_ne (by omega)
  have m20 : mu M 154 0 0 154 20 = M 154 20 := mx_ne (by omega)
  have m62 : mu M 154 0 0 162 = M 162 := o.row fun i => by omega
  have t1 := I.wr
  have t2 := I.wv
  by_cases h19 : M 154 19 = 0
  · refine y_sam1.mk (M2 := mu M 154 0 0) (r := -1) o ?_ ?_
    · show Lx_rule fu L M 1 k = _
      unfold Lx_rule
      rw [l1, if_pos rfl, e11, if_pos h19]
    · show Mo_rule fu L M 154 k = _
      unfold Mo_rule
      rw [l4, if_pos rfl, lt1_def, m19, if_pos h19]
  · have v2 : WV (M 154 20) (mu M 154 0 0 162) := by rw [m62]; exact t2
    have he := Mr_end (fu := fu) (N := mu M 154 0 0) hf l4 m20 l62 (by omega) v2 l62 (y_18 I o) (by rw [m62]; exact y_per I)
    have hd := Mr_lastDeath (fu := fu) (N := mu M 154 0 0) hf l4 m20 l62 (by omega) v2
    have hl := Mr_living (fu := fu) (N := mu M 154 0 0) hf l62 (by omega) v2
    rw [m62] at he hd hl
    refine y_sam1.mk (M2 := mu M 154 0 0) (r := if k = 0 then M 162 0 else if k = 1 then M 162 1 else if k = 2 then y_set (M 154 20) (M 162) else if k = 3 then y_last (M 154 20) (M 162) else if k = 4 then M 162 74 else if k = 5 then y_end (M 154 20) (M 162 74) (M 162) else if k = 6 then M 162 76 else if k = 7 then M 154 20 else if k = 8 then M 162 75 else -1) o ?_ ?_
    · show Lx_rule fu L M 1 k = _
      unfold Lx_rule
      simp only [l1, e11, h19, p4, l19, p0, l20, e2, e3, e4, ↓reduceIte, ↓lt1_def, Wr_livingLives hf t1 t2, Wr_lastDeath hf t1 t2, Wr_theEnd hf t1 t2 (y_per I), bd1_some, t1.2.1.1, t1.2.1.2.1, t1.2.1.2.2]
      (repeat' split) <;> rfl
    · show Mo_rule fu L M 154 k = _
      unfold Mo_rule Mo_gifts
      have g0 : (0 : Int) ≤ 0 ∧ (0 : Int) < 2597 := by omega
      have g1 : (0 : Int) ≤ 1 ∧ (1 : Int) < 2597 := by omega
      have g74 : (0 : Int) ≤ 74 ∧ (74 : Int) < 2597 := by omega
      have g75 : (0 : Int) ≤ 75 ∧ (75 : Int) < 2597 := by omega
      have g76 : (0 : Int) ≤ 76 ∧ (76 : Int) < 2597 := by omega
      simp only [l4, ↓lt1_def, m19, h19, y_18 I o, l62, g0, g1, g74, g75, g76, and_self, ↓reduceIte, m20, he, hd, hl, bd1_some, m62]
      (repeat' split) <;> rfl
theorem c_told (hf : 400 ≤ fu) (I : y_inv L M top) (g k : Int) : y_sam1 L M (fun M => Lx_told fu L M 1 g k) (fun M => Mo_told fu L M 154 g k) := by
  have l1 : L 1 = (12, 0) := I.lay 1 (by decide)
  have l4 : L 154 = (13, 0) := I.lay 154 (by decide)
  have l19 : L 19 = (2, 0) := I.lay 19 (by decide)
  have l62 : L 162 = (101, 2597) := I.lay 162 (by decide)
  have p4 : M 1 4 = 19 := I.ptr (1, 4, 19) (by decide +kernel)
  have o := y_off0 M
  have m62 : mu M 154 0 0 162 = M 162 := o.row fun i => by omega
  by_cases h : M 154 19 = 1 ∧ 0 ≤ g ∧ g < M 162 76
  · obtain ⟨ga, _, _, _, _, _, _, _, _, ⟨g1, g2, g3, g4⟩, _, hm⟩ := y_gift hf I h
    obtain ⟨st, pt, tl, gc, q2, _⟩ := I.2.2.2.2.1.2.2.2.2.2.2 g h.2.1 h.2.2
    have ea : M (19 + 5) g = ga := g4
    rw [ea] at gc q2
    refine y_sam1.mk (M2 := mu M 154 0 0) (r := if 0 ≤ k ∧ k ≤ 3 then M 162 (77 + 315 * g + k) else -1) o ?_ ?_
    · show Lx_told fu L M 1 g k = _
      unfold Lx_told
      rw [l1, if_pos rfl, p4, l19, if_pos rfl, g1, bd1_some, if_neg g2, gc.1, if_pos rfl, if_pos rfl, if_pos rfl, if_pos rfl, q2.1, q2.2.1, q2.2.2.1, gc.2.1.2, q2.2.2.2]
      by_cases k0 : k = 0
      · rw [if_pos k0, if_pos (by omega), k0]
      · rw [if_neg k0]
        by_cases k1 : k = 1
        · rw [if_pos k1, if_pos (by omega), k1]
        · rw [if_neg k1]
          by_cases k2 : k = 2
          · rw [if_pos k2, if_pos (by omega), k2]
          · rw [if_neg k2]
            by_cases k3 : k = 3
            · rw [if_pos k3, if_pos (by omega), k3]
            · rw [if_neg k3, if_neg (by omega)]
    · show Mo_told fu L M 154 g k = _
      unfold Mo_told
      have hb := I.2.2.2.2.1.2.2.1.1
      have e : w32 (315 * g) = 315 * g := w32_id (by omega)
      rw [l4, if_pos rfl, lt1_def, y_isG I o, if_pos h, bd1_some, if_neg (by decide), Mo_in_ok]
      by_cases hk : 0 ≤ k ∧ k ≤ 3
      · have ew : w32 (77 + 315 * g + k) = 77 + 315 * g + k := w32_id (by omega)
        rw [if_pos hk, bd1_some, if_neg (by decide), Mo_giftAt_ok (by omega), bd1_some, y_18 I o, l62, if_pos rfl, ew, if_pos (show 0 ≤ 77 + 315 * g + k ∧ 77 + 315 * g + k < ((101, 2597) : Int × Int).2 by show _ ∧ _ < (2597 : Int); omega), m62, if_pos hk]
      · rw [if_neg hk, bd1_some, if_pos rfl, if_neg hk]
  · refine y_sam1.mk (M2 := mu M 154 0 0) (r := -1) o ?_ ?_
    · show Lx_told fu L M 1 g k = _
      unfold Lx_told
      rw [l1, if_pos rfl, p4, l19, if_pos rfl, Af_giftAt_n I h, bd1_some, if_pos rfl]
    · show Mo_told fu L M 154 g k = _
      unfold Mo_told
      rw [l4, if_pos rfl, lt1_def, y_isG I o, if_neg h, bd1_some, if_pos rfl]
end

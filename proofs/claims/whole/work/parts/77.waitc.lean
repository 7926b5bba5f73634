/-! ===== pure: part 77: calls that wait and see ===== -/
/-- a call of the class and one of the model answer alike and keep the invariant -/
def y_same (L : zL) (M : zM) (c m : zM → Option (zM × Int)) : Prop := ∃ M1 r M2, c M = some (M1, r) ∧ m M1 = some (M2, r) ∧ y_off M M2
theorem y_same.mk {L : zL} {M M1 M2 : zM} {c m : zM → Option (zM × Int)} {r : Int} (h3 : y_off M M2) (h1 : c M = some (M1, r)) (h2 : m M1 = some (M2, r)) : y_same L M c m := ⟨M1, r, M2, h1, h2, h3⟩
section
variable {fu : Nat} {L : zL} {M : zM} {top : Int}
theorem y_inv.lay (I : y_inv L M top) : Lay L := I.1.1
theorem y_inv.ptr (I : y_inv L M top) : Ptr M := I.1.2.1
theorem y_inv.mr (I : y_inv L M top) : y_mr L M 162 (M 154 20) (M 162) := by
  obtain ⟨⟨hL, _, _⟩, _, _, _, h7, _⟩ := I
  exact ⟨⟨2597, hL 162 (by decide), by omega⟩, Or.inl rfl, rfl, h7.2.2.2.2.1, rfl⟩
theorem y_inv.wr (I : y_inv L M top) : WR L M 20 21 22 23 (M 154 20) (M 162) := I.2.2.2.2.1.2.2.2.1
theorem y_inv.wv (I : y_inv L M top) : WV (M 154 20) (M 162) := I.2.2.2.2.1.2.2.2.2.1
theorem Mo_isGift_ok (I : y_inv L M top) (g : Int) : Mo_isGift fu L M 154 g = some (if M 154 19 = 1 ∧ 0 ≤ g ∧ g < M 162 76 then 1 else 0) := by
  have hL := I.lay
  have l4 : L 154 = (13, 0) := hL 154 (by decide)
  have l62 : L 162 = (101, 2597) := hL 162 (by decide)
  have p18 : M 154 18 = 162 := I.ptr (154, 18, 162) (by decide +kernel)
  have hb := I.2.2.2.2.1.2.2.1.1
  have h19 := I.2.2.2.1.2.1
  have ew : w32 (M 162 76 - 1) = M 162 76 - 1 := w32_id (by omega)
  have g1 : (0 : Int) ≤ 76 := by omega
  have g2 : (76 : Int) < 2597 := by omega
  unfold Mo_isGift Mo_gifts Mo_in
  simp only [l4, p18, l62, g1, g2, and_self, ↓reduceIte, bd1_some, ew]
  by_cases c : M 154 19 = 0
  · rw [if_pos c, if_neg (by omega)]
  · rw [if_neg c]
    by_cases c1 : g < 0
    · rw [if_pos c1, bd1_some, if_pos rfl, if_neg (by omega)]
    · rw [if_neg c1]
      by_cases c2 : M 162 76 - 1 < g
      · rw [if_pos c2, bd1_some, if_pos rfl, if_neg (by omega)]
      · rw [if_neg c2, bd1_some, if_neg (by decide), if_pos (by omega)]
theorem Af_giftAt_n (I : y_inv L M top) {g : Int} (h : ¬ (M 154 19 = 1 ∧ 0 ≤ g ∧ g < M 162 76)) : Af_giftAt fu L M 19 g = some 0 := by
  have l19 : L 19 = (2, 0) := I.lay 19 (by decide)
  have hra := I.2.2.2.2.1
  have h2 : M 19 2 = M 162 76 := hra.2.1.2.2.1
  have h6 := I.2.2.2.1
  unfold Af_giftAt
  simp only [l19, h2, ↓reduceIte]
  by_cases c1 : g < 0
  · rw [if_pos c1]
  · rw [if_neg c1, if_neg (fun z => h ⟨by omega, by omega, z⟩)]
/-- all of a gift that is there -/
theorem y_gift (hf : 400 ≤ fu) (I : y_inv L M top) {g : Int} (h : M 154 19 = 1 ∧ 0 ≤ g ∧ g < M 162 76) : ∃ ga st e wh li K Q A F, (Af_giftAt fu L M 19 g = some ga ∧ ga ≠ 0 ∧ L ga = (4, 0) ∧ M 24 g = ga) ∧
    (∀ {a B D P : Int} {w : Int → Int}, y_wa a B D P → WR L M a B D P (M 154 20) w → WV (M 154 20) w → ∃ M1, Wt_look fu L M 140 a ga (M 162 74) = some M1 ∧ y_off M M1 ∧ y_wt M1 (w 1) (w 0) (y_end (M 154 20) (M 162 74) w) (y_cv wh (y_py wh li w K Q A F st) (w 1)) (y_nat wh li w) (if wh = 0 then 1 else 0) (y_fy w (y_cv wh (y_py wh li w K Q A F st) (w 1)) (y_py wh li w K Q A F st))) ∧
    (∀ N, y_off M N → y_mg L N g (fun i => M 162 (77 + 315 * g + i)) wh li (M 154 20) e K Q A F st) := by
  have hL := I.lay
  have hra := I.2.2.2.2.1
  have h2 : M 19 2 = M 162 76 := hra.2.1.2.2.1
  have h1 : M 19 1 = 24 := hra.2.1.2.1
  have l19 : L 19 = (2, 0) := hL 19 (by decide)
  have l24 : L 24 = (103, 8) := hL 24 (by decide)
  have hb := hra.2.2.1
  obtain ⟨st, pt, tl, gc, g2, g3, g4, g5, _⟩ := hra.2.2.2.2.2.2 g h.2.1 h.2.2
  have sk := (y_seg_b g5).2.2
  obtain ⟨ga, hga⟩ : ∃ ga, ga = M (19 + 5) g := ⟨_, rfl⟩
  rw [← hga] at gc g2 g5 sk
  have q := gc.2.2.2.1.1
  have hst := gc.2.2.2.2.1
  refine ⟨ga, st, M 162 (77 + 315 * g + 4), M 162 (77 + 315 * g + 0), M 162 (77 + 315 * g + 1), M (M ga 5), M (M ga 6), M (M ga 7), M (M ga 8), ⟨?_, by omega, gc.1, hga.symm⟩, fun {a B D P w} hx hW hV => ?_, fun N o => ?_⟩
  · unfold Af_giftAt
    have c1 : ¬ g < 0 := by omega
    have c2 : g < 8 := by omega
    simp only [c1, l19, h2, h.2.1, h.2.2, h1, l24, c2, and_self, ↓reduceIte]
    rw [hga]; rfl
  · exact Wt_look_ok hf hL I.ptr hW hV hx gc g2.1 g2.2.1 g3.1 g3.2.1 g3.2.2.2 sk hb.2.1
  · refine ⟨by omega, ⟨hL 154 (by decide), hL 162 (by decide), (o _ _ (by omega)).trans (I.ptr (154, 18, 162) (by decide +kernel)), (o _ _ (by omega)).trans I.2.2.2.2.2.2.2.2.2⟩, fun i i0 i1 => o _ _ (by omega), ⟨rfl, rfl, rfl⟩, ⟨g3.1, g3.2.1, g3.2.2.1, g3.2.2.2, hst.2⟩, g4, g5⟩
theorem y_per (I : y_inv L M top) : 0 ≤ M 162 74 ∧ M 162 74 ≤ 99 := I.2.2.2.2.1.2.2.1.2.1
theorem y_off.inv_mr {N : zM} (I : y_inv L M top) (o : y_off M N) : y_mr L N 162 (M 154 20) (M 162) := I.mr.off o
/-- waitFor: no gift -/
theorem Lx_waitFor_n (I : y_inv L M top) {g : Int} (h : ¬ (M 154 19 = 1 ∧ 0 ≤ g ∧ g < M 162 76)) : Lx_waitFor fu L M 1 g = some (M, 0) := by
  have l1 : L 1 = (12, 0) := I.lay 1 (by decide)
  have l19 : L 19 = (2, 0) := I.lay 19 (by decide)
  have p4 : M 1 4 = 19 := I.ptr (1, 4, 19) (by decide +kernel)
  unfold Lx_waitFor
  rw [l1, if_pos rfl, p4, l19, if_pos rfl, Af_giftAt_n I h, bd1_some, if_pos rfl]
theorem Lx_waitFor_y (I : y_inv L M top) {g ga : Int} {M1 : zM} (h1 : Af_giftAt fu L M 19 g = some ga) (h2 : ga ≠ 0) (h3 : Wt_look fu L M 140 20 ga (M 162 74) = some M1) : Lx_waitFor fu L M 1 g = some (M1, 1) := by
  have l1 : L 1 = (12, 0) := I.lay 1 (by decide)
  have l19 : L 19 = (2, 0) := I.lay 19 (by decide)
  have l40 : L 140 = (10, 0) := I.lay 140 (by decide)
  have p4 : M 1 4 = 19 := I.ptr (1, 4, 19) (by decide +kernel)
  have p8 : M 1 8 = 140 := I.ptr (1, 8, 140) (by decide +kernel)
  have hra := I.2.2.2.2.1
  have e0 : M 19 0 = 20 := hra.2.1.1
  have e3 : M 19 3 = M 162 74 := hra.2.1.2.2.2.1
  unfold Lx_waitFor
  rw [l1, if_pos rfl, p4, l19, if_pos rfl, h1, bd1_some, if_neg h2, p8, l40, if_pos rfl, e0, e3, h3, bd1_some]
theorem y_wa20 : y_wa 20 21 22 23 := Or.inl ⟨rfl, rfl, rfl, rfl⟩
theorem y_wa129 : y_wa 129 130 131 132 := Or.inr ⟨rfl, rfl, rfl, rfl⟩
/-- a model's call: its first store -/
theorem y_off0 (M : zM) : y_off M (mu M 154 0 0) := (y_off.refl M).mu (by omega)
theorem c_member (hf : 400 ≤ fu) (I : y_inv L M top) (g k : Int) : y_same L M (fun M => Lx_member fu L M 1 g k) (fun M => Mo_member fu L M 154 g k) := by
  have l1 : L 1 = (12, 0) := I.lay 1 (by decide)
  have l4 : L 154 = (13, 0) := I.lay 154 (by decide)
  have l40 : L 140 = (10, 0) := I.lay 140 (by decide)
  by_cases h : M 154 19 = 1 ∧ 0 ≤ g ∧ g < M 162 76
  · obtain ⟨ga, st, e, wh, li, K, Q, A, F, ⟨g1, g2, g3, _⟩, hl, hm⟩ := y_gift hf I h
    obtain ⟨M1, a1, a2, a3⟩ := hl y_wa20 I.wr I.wv
    have p8 : M1 1 8 = 140 := (a2.ptr I.ptr) (1, 8, 140) (by decide +kernel)
    have o2 := a2.trans (y_off0 M1)
    obtain ⟨M2, b1, b2⟩ := Mo_member_l (fu := fu) hf (hm _ o2) (I.mr.off o2) k
    have hg2 := Mo_isGift_ok (fu := fu) (I.off o2) g
    rw [o2 154 19 (by omega), o2 162 76 (by omega), if_pos h] at hg2
    apply y_same.mk (M1 := M1) (o2.trans b2)
    · show Lx_member fu L M 1 g k = _
      unfold Lx_member
      rw [l1, if_pos rfl, Lx_waitFor_y I g1 g2 a1, bd2_some, if_neg (by decide), p8, l40, if_pos rfl, if_pos rfl, Wt_membersInAll_ok hf I.lay (a2.ptr I.ptr) a3, bd1_some, Wt_memberAt_ok hf I.lay (a2.ptr I.ptr) a3, bd1_some]
      exact (apply_ite (fun z => some (M1, z)) _ _ _).symm
    · show Mo_member fu L M1 154 g k = _
      unfold Mo_member
      rw [l4, if_pos rfl, lt1_def, hg2, bd1_some, if_neg (by decide)]
      exact b1
  · refine ⟨M, -1, mu M 154 0 0, ?_, ?_, y_off0 M⟩
    · show Lx_member fu L M 1 g k = _
      unfold Lx_member
      rw [l1, if_pos rfl, Lx_waitFor_n I h, bd2_some, if_pos rfl]
    · have hg2 := Mo_isGift_ok (fu := fu) (I.off (y_off0 M)) g
      rw [y_off0 M 154 19 (by omega), y_off0 M 162 76 (by omega), if_neg h] at hg2
      show Mo_member fu L M 154 g k = _
      unfold Mo_member
      rw [l4, if_pos rfl, lt1_def, hg2, bd1_some, if_pos rfl]
theorem c_vests (hf : 400 ≤ fu) (I : y_inv L M top) (g p : Int) : y_same L M (fun M => Lx_vests fu L M 1 g p) (fun M => Mo_vests fu L M 154 g p) := by
  have l1 : L 1 = (12, 0) := I.lay 1 (by decide)
  have l4 : L 154 = (13, 0) := I.lay 154 (by decide)
  have l19 : L 19 = (2, 0) := I.lay 19 (by decide)
  have l20 : L 20 = (11, 0) := I.lay 20 (by decide)
  have l40 : L 140 = (10, 0) := I.lay 140 (by decide)
  have l62 : L 162 = (101, 2597) := I.lay 162 (by decide)
  have p4 : M 1 4 = 19 := I.ptr (1, 4, 19) (by decide +kernel)
  have p0 : M 19 0 = 20 := I.ptr (19, 0, 20) (by decide +kernel)
  have hin := Mr_isIn (fu := fu) (N := mu M 154 0 0) l62 (by omega) (I.off (y_off0 M)).wv p
  by_cases hp : 0 ≤ p ∧ p < M 162 1
  · by_cases h : M 154 19 = 1 ∧ 0 ≤ g ∧ g < M 162 76
    · obtain ⟨ga, st, e, wh, li, K, Q, A, F, ⟨g1, g2, g3, _⟩, hl, hm⟩ := y_gift hf I h
      obtain ⟨M1, a1, a2, a3⟩ := hl y_wa20 I.wr I.wv
      have p8 : M1 1 8 = 140 := (a2.ptr I.ptr) (1, 8, 140) (by decide +kernel)
      have o2 := a2.trans (y_off0 M1)
      have q18 : mu M1 154 0 0 154 18 = 162 := (o2.ptr I.ptr) (154, 18, 162) (by decide +kernel)
      obtain ⟨M2, b1, b2⟩ := Mo_vestsIn_ok (fu := fu) hf (hm _ o2) (I.mr.off o2) hp.1 hp.2
      have hg2 := Mo_isGift_ok (fu := fu) (I.off o2) g
      rw [o2 154 19 (by omega), o2 162 76 (by omega), if_pos h] at hg2
      have hin2 := Mr_isIn (fu := fu) (N := mu M1 154 0 0) l62 (by omega) (I.off o2).wv p
      rw [o2 162 1 (by omega), if_pos hp] at hin2
      apply y_same.mk (M1 := M1) (o2.trans b2)
      · show Lx_vests fu L M 1 g p = _
        unfold Lx_vests
        rw [l1, if_pos rfl, p4, l19, if_pos rfl, p0, l20, if_pos rfl, Wr_has I.wr I.wv, if_pos hp, bd1_some, if_neg (by decide), Lx_waitFor_y I g1 g2 a1, bd2_some, if_neg (by decide), p8, l40, if_pos rfl, Wt_yearOf_ok I.lay (a2.ptr I.ptr) a3 hp.1 hp.2, bd1_some]
      · show Mo_vests fu L M1 154 g p = _
        unfold Mo_vests
        rw [l4, if_pos rfl, lt1_def, hg2, bd1_some, if_neg (by decide), q18, hin2, bd1_some, if_neg (by decide), b1, bd2_some]
    · refine ⟨M, -1000000, mu M 154 0 0, ?_, ?_, y_off0 M⟩
      · show Lx_vests fu L M 1 g p = _
        unfold Lx_vests
        rw [l1, if_pos rfl, p4, l19, if_pos rfl, p0, l20, if_pos rfl, Wr_has I.wr I.wv, if_pos hp, bd1_some, if_neg (by decide), Lx_waitFor_n I h, bd2_some, if_pos rfl]
      · have hg2 := Mo_isGift_ok (fu := fu) (I.off (y_off0 M)) g
        rw [y_off0 M 154 19 (by omega), y_off0 M 162 76 (by omega), if_neg h] at hg2
        show Mo_vests fu L M 154 g p = _
        unfold Mo_vests
        rw [l4, if_pos rfl, lt1_def, hg2, bd1_some, if_pos rfl]
  · refine ⟨M, -1000000, mu M 154 0 0, ?_, ?_, y_off0 M⟩
    · show Lx_vests fu L M 1 g p = _
      unfold Lx_vests
      rw [l1, if_pos rfl, p4, l19, if_pos rfl, p0, l20, if_pos rfl, Wr_has I.wr I.wv, if_neg hp, bd1_some, if_pos rfl]
    · have hg2 := Mo_isGift_ok (fu := fu) (I.off (y_off0 M)) g
      have q18 : mu M 154 0 0 154 18 = 162 := ((y_off0 M).ptr I.ptr) (154, 18, 162) (by decide +kernel)
      rw [y_off0 M 162 1 (by omega), if_neg hp] at hin
      show Mo_vests fu L M 154 g p = _
      unfold Mo_vests
      rw [l4, if_pos rfl, lt1_def, hg2, bd1_some, q18, hin, bd1_some, if_pos rfl]
      split <;> rfl
end

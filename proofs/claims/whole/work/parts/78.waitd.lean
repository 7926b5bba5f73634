/-! ===== pure: part 78: more calls that wait and see ===== -/
section
variable {fu : Nat} {L : zL} {M : zM} {top : Int}
theorem y_isG (I : y_inv L M top) {N : zM} (o : y_off M N) (g : Int) : Mo_isGift fu L N 154 g = some (if M 154 19 = 1 ∧ 0 ≤ g ∧ g < M 162 76 then 1 else 0) := by
  have h := Mo_isGift_ok (fu := fu) (I.off o) g
  rw [o 154 19 (by omega), o 162 76 (by omega)] at h
  exact h
theorem y_isI (I : y_inv L M top) {N : zM} (o : y_off M N) (p : Int) : Mo_isIn fu L N 162 p = some (if 0 ≤ p ∧ p < M 162 1 then 1 else 0) := by
  have l62 : L 162 = (101, 2597) := I.lay 162 (by decide)
  have h := Mr_isIn (fu := fu) (N := N) l62 (by omega) (I.off o).wv p
  rw [o 162 1 (by omega)] at h
  exact h
theorem y_18 (I : y_inv L M top) {N : zM} (o : y_off M N) : N 154 18 = 162 := (o.ptr I.ptr) (154, 18, 162) (by decide +kernel)
theorem y_37 (I : y_inv L M top) {N : zM} (o : y_off M N) : N 154 37 = 168 := (o.ptr I.ptr) (154, 37, 168) (by decide +kernel)
theorem y_8 (I : y_inv L M top) {N : zM} (o : y_off M N) : N 1 8 = 140 := (o.ptr I.ptr) (1, 8, 140) (by decide +kernel)
theorem y_perO (I : y_inv L M top) {N : zM} (o : y_off M N) : N 162 74 = M 162 74 ∧ 0 ≤ M 162 74 ∧ M 162 74 ≤ 99 := ⟨o _ _ (by omega), y_per I⟩
theorem Mo_in_ok (a b c : Int) : Mo_in fu L M a b c = some (if b ≤ a ∧ a ≤ c then 1 else 0) := by
  unfold Mo_in
  (repeat' split) <;> first | rfl | omega
theorem c_closes (hf : 400 ≤ fu) (I : y_inv L M top) (g k : Int) : y_same L M (fun M => Lx_closes fu L M 1 g k) (fun M => Mo_closes fu L M 154 g k) := by
  have l1 : L 1 = (12, 0) := I.lay 1 (by decide)
  have l4 : L 154 = (13, 0) := I.lay 154 (by decide)
  have l40 : L 140 = (10, 0) := I.lay 140 (by decide)
  by_cases h : M 154 19 = 1 ∧ 0 ≤ g ∧ g < M 162 76
  · obtain ⟨ga, st, e, wh, li, K, Q, A, F, ⟨g1, g2, g3, _⟩, hl, hm⟩ := y_gift hf I h
    obtain ⟨M1, a1, a2, a3⟩ := hl y_wa20 I.wr I.wv
    have o2 := a2.trans (y_off0 M1)
    have hc : Lx_closes fu L M 1 g k = some (M1, if k = 0 then y_cv wh (y_py wh li (M 162) K Q A F st) (M 162 1) else if k = 1 then y_nat wh li (M 162) else -1) := by
      unfold Lx_closes
      rw [l1, if_pos rfl, Lx_waitFor_y I g1 g2 a1, bd2_some, if_neg (by decide), y_8 I a2, l40, if_pos rfl, if_pos rfl, a3.1.2.2.2.1, a3.1.2.2.2.2.1]
      (repeat' split) <;> rfl
    by_cases k0 : k = 0
    · obtain ⟨M2, b1, b2⟩ := Mo_convenience_ok (fu := fu) hf (hm _ o2) (I.mr.off o2)
      refine y_same.mk (M1 := M1) (M2 := M2) (o2.trans b2) hc ?_
      show Mo_closes fu L M1 154 g k = _
      unfold Mo_closes
      rw [l4, if_pos rfl, lt1_def, y_isG I o2, if_pos h, bd1_some, if_neg (by decide), Mo_in_ok, if_pos (by omega), bd1_some, if_neg (by decide), if_pos k0, y_18 I o2, b1, bd2_some, if_pos k0]
    · refine y_same.mk (M1 := M1) (M2 := mu M1 154 0 0) o2 hc ?_
      show Mo_closes fu L M1 154 g k = _
      unfold Mo_closes
      rw [l4, if_pos rfl, lt1_def, y_isG I o2, if_pos h, bd1_some, if_neg (by decide), Mo_in_ok, if_neg k0]
      by_cases k1 : k = 1
      · rw [if_pos (by omega), bd1_some, if_neg (by decide), if_neg k0, y_18 I o2, Mo_nature_ok hf (hm _ o2) (I.mr.off o2), bd1_some, if_pos k1]
      · rw [if_neg (by omega), bd1_some, if_pos rfl, if_neg k1, if_neg k0]
  · refine y_same.mk (M1 := M) (M2 := mu M 154 0 0) (r := -1) (y_off0 M) ?_ ?_
    · show Lx_closes fu L M 1 g k = _
      unfold Lx_closes
      rw [l1, if_pos rfl, Lx_waitFor_n I h, bd2_some, if_pos rfl]
    · show Mo_closes fu L M 154 g k = _
      unfold Mo_closes
      rw [l4, if_pos rfl, lt1_def, y_isG I (y_off0 M), if_neg h, bd1_some, if_pos rfl]
theorem c_state (hf : 400 ≤ fu) (I : y_inv L M top) (g : Int) : y_same L M (fun M => Lx_state fu L M 1 g) (fun M => Mo_state fu L M 154 g) := by
  have l1 : L 1 = (12, 0) := I.lay 1 (by decide)
  have l4 : L 154 = (13, 0) := I.lay 154 (by decide)
  have l40 : L 140 = (10, 0) := I.lay 140 (by decide)
  by_cases h : M 154 19 = 1 ∧ 0 ≤ g ∧ g < M 162 76
  · obtain ⟨ga, st, e, wh, li, K, Q, A, F, ⟨g1, g2, g3, _⟩, hl, hm⟩ := y_gift hf I h
    obtain ⟨M1, a1, a2, a3⟩ := hl y_wa20 I.wr I.wv
    have o2 := a2.trans (y_off0 M1)
    obtain ⟨M2, b1, b2⟩ := Mo_stateOf_ok (fu := fu) hf (hm _ o2) (I.mr.off o2) (y_perO I o2)
    apply y_same.mk (M1 := M1) (M2 := M2) (o2.trans b2)
    · show Lx_state fu L M 1 g = _
      unfold Lx_state
      rw [l1, if_pos rfl, Lx_waitFor_y I g1 g2 a1, bd2_some, if_neg (by decide), y_8 I a2, l40, if_pos rfl, Wt_standing_ok hf I.lay (a2.ptr I.ptr) a3, bd1_some]
    · show Mo_state fu L M1 154 g = _
      unfold Mo_state
      rw [l4, if_pos rfl, lt1_def, y_isG I o2, if_pos h, bd1_some, if_neg (by decide), y_18 I o2, b1, bd2_some]
  · refine y_same.mk (M1 := M) (M2 := mu M 154 0 0) (r := -1) (y_off0 M) ?_ ?_
    · show Lx_state fu L M 1 g = _
      unfold Lx_state
      rw [l1, if_pos rfl, Lx_waitFor_n I h, bd2_some, if_pos rfl]
    · show Mo_state fu L M 154 g = _
      unfold Mo_state
      rw [l4, if_pos rfl, lt1_def, y_isG I (y_off0 M), if_neg h, bd1_some, if_pos rfl]
theorem c_count (hf : 400 ≤ fu) (I : y_inv L M top) (g k : Int) : y_same L M (fun M => Lx_count fu L M 1 g k) (fun M => Mo_count fu L M 154 g k) := by
  have l1 : L 1 = (12, 0) := I.lay 1 (by decide)
  have l4 : L 154 = (13, 0) := I.lay 154 (by decide)
  have l40 : L 140 = (10, 0) := I.lay 140 (by decide)
  by_cases h : M 154 19 = 1 ∧ 0 ≤ g ∧ g < M 162 76
  · obtain ⟨ga, st, e, wh, li, K, Q, A, F, ⟨g1, g2, g3, _⟩, hl, hm⟩ := y_gift hf I h
    obtain ⟨M1, a1, a2, a3⟩ := hl y_wa20 I.wr I.wv
    have o2 := a2.trans (y_off0 M1)
    by_cases hk : 0 ≤ k ∧ k ≤ 3
    · obtain ⟨M2, b1, b2⟩ := Mo_counted_ok (fu := fu) hf (hm _ o2) (I.mr.off o2) (y_perO I o2) k
      apply y_same.mk (M1 := M1) (M2 := M2) (o2.trans b2)
      · show Lx_count fu L M 1 g k = _
        unfold Lx_count
        rw [l1, if_pos rfl, Lx_waitFor_y I g1 g2 a1, bd2_some, if_neg (by decide), y_8 I a2, l40, if_pos rfl, Wt_tally_ok hf I.lay (a2.ptr I.ptr) a3 hk, bd1_some]
      · show Mo_count fu L M1 154 g k = _
        unfold Mo_count
        rw [l4, if_pos rfl, lt1_def, y_isG I o2, if_pos h, bd1_some, if_neg (by decide), Mo_in_ok, if_pos hk, bd1_some, if_neg (by decide), y_18 I o2, b1, bd2_some]
    · refine y_same.mk (M1 := M1) (M2 := mu M1 154 0 0) (r := -1) o2 ?_ ?_
      · show Lx_count fu L M 1 g k = _
        unfold Lx_count
        rw [l1, if_pos rfl, Lx_waitFor_y I g1 g2 a1, bd2_some, if_neg (by decide), y_8 I a2, l40, if_pos rfl]
        unfold Wt_tally
        by_cases k0 : k < 0
        · rw [if_pos k0, bd1_some]
        · rw [if_neg k0, if_pos (by omega), bd1_some]
      · show Mo_count fu L M1 154 g k = _
        unfold Mo_count
        rw [l4, if_pos rfl, lt1_def, y_isG I o2, if_pos h, bd1_some, if_neg (by decide), Mo_in_ok, if_neg hk, bd1_some, if_pos rfl]
  · refine y_same.mk (M1 := M) (M2 := mu M 154 0 0) (r := -1) (y_off0 M) ?_ ?_
    · show Lx_count fu L M 1 g k = _
      unfold Lx_count
      rw [l1, if_pos rfl, Lx_waitFor_n I h, bd2_some, if_pos rfl]
    · show Mo_count fu L M 154 g k = _
      unfold Mo_count
      rw [l4, if_pos rfl, lt1_def, y_isG I (y_off0 M), if_neg h, bd1_some, if_pos rfl]
theorem c_share (hf : 400 ≤ fu) (I : y_inv L M top) (g p k : Int) : y_same L M (fun M => Lx_share fu L M 1 g p k) (fun M => Mo_share fu L M 154 g p k) := by
  have l1 : L 1 = (12, 0) := I.lay 1 (by decide)
  have l4 : L 154 = (13, 0) := I.lay 154 (by decide)
  have l19 : L 19 = (2, 0) := I.lay 19 (by decide)
  have l20 : L 20 = (11, 0) := I.lay 20 (by decide)
  have l40 : L 140 = (10, 0) := I.lay 140 (by decide)
  have p4 : M 1 4 = 19 := I.ptr (1, 4, 19) (by decide +kernel)
  have p0 : M 19 0 = 20 := I.ptr (19, 0, 20) (by decide +kernel)
  have hn : ∀ (M1 : zM), y_off M M1 → ¬ ((M 154 19 = 1 ∧ 0 ≤ g ∧ g < M 162 76) ∧ (0 ≤ p ∧ p < M 162 1) ∧ 0 ≤ k ∧ k ≤ 1000000) → Mo_share fu L M1 154 g p k = some (mu M1 154 0 0, -1) := fun M1 o hh => by
    have o2 := o.trans (y_off0 M1)
    unfold Mo_share
    rw [l4, if_pos rfl, lt1_def, y_isG I o2]
    by_cases h : M 154 19 = 1 ∧ 0 ≤ g ∧ g < M 162 76
    · rw [if_pos h, bd1_some, if_neg (by decide), y_18 I o2, y_isI I o2]
      by_cases h2 : 0 ≤ p ∧ p < M 162 1
      · rw [if_pos h2, bd1_some, if_neg (by decide), Mo_in_ok, if_neg (fun z => hh ⟨h, h2, z⟩), bd1_some, if_pos rfl]
      · rw [if_neg h2, bd1_some, if_pos rfl]
    · rw [if_neg h, bd1_some, if_pos rfl]
  by_cases hk : 0 ≤ k ∧ k ≤ 1000000
  · by_cases hp : 0 ≤ p ∧ p < M 162 1
    · by_cases h : M 154 19 = 1 ∧ 0 ≤ g ∧ g < M 162 76
      · obtain ⟨ga, st, e, wh, li, K, Q, A, F, ⟨g1, g2, g3, _⟩, hl, hm⟩ := y_gift hf I h
        obtain ⟨M1, a1, a2, a3⟩ := hl y_wa20 I.wr I.wv
        have o2 := a2.trans (y_off0 M1)
        have hc : Lx_share fu L M 1 g p k = some (M1, y_shr (y_fy (M 162) (y_cv wh (y_py wh li (M 162) K Q A F st) (M 162 1)) (y_py wh li (M 162) K Q A F st)) (M 162 1) (y_end (M 154 20) (M 162 74) (M 162)) (y_cmp (if wh = 0 then 1 else 0) (y_cv wh (y_py wh li (M 162) K Q A F st) (M 162 1)) (y_nat wh li (M 162))) p k) := by
          unfold Lx_share
          rw [if_neg (by omega), if_neg (by omega), l1, if_pos rfl, p4, l19, if_pos rfl, p0, l20, if_pos rfl, Wr_has I.wr I.wv, if_pos hp, bd1_some, if_neg (by decide), Lx_waitFor_y I g1 g2 a1, bd2_some, if_neg (by decide), y_8 I a2, l40, if_pos rfl, Wt_partOf_ok hf I.lay (a2.ptr I.ptr) a3 hp.1 hp.2, bd1_some]
        obtain ⟨T, t1, t2⟩ := Mo_isClosed_ok (fu := fu) hf (hm _ o2) (I.mr.off o2)
        have o3 := o2.trans t2
        obtain ⟨U, u1, u2⟩ := Mo_counted_ok (fu := fu) hf (hm _ o3) (I.mr.off o3) (y_perO I o3) 0
        have o4 := o3.trans u2
        obtain ⟨V, v1, v2⟩ := Mo_counted_ok (fu := fu) hf (hm _ o4) (I.mr.off o4) (y_perO I o4) 1
        have o5 := o4.trans v2
        obtain ⟨X, x1, x2⟩ := Mo_vestsIn_ok (fu := fu) hf (hm _ o5) (I.mr.off o5) hp.1 hp.2
        have o6 := o5.trans x2
        have hn1 : 0 ≤ M 162 1 ∧ M 162 1 ≤ 24 := by have := I.wv.1; omega
        have b0 := y_ct_b (y_fy (M 162) (y_cv wh (y_py wh li (M 162) K Q A F st) (M 162 1)) (y_py wh li (M 162) K Q A F st)) (en := y_end (M 154 20) (M 162 74) (M 162)) (what := 0) hn1
        have b1 := y_ct_b (y_fy (M 162) (y_cv wh (y_py wh li (M 162) K Q A F st) (M 162 1)) (y_py wh li (M 162) K Q A F st)) (en := y_end (M 154 20) (M 162 74) (M 162)) (what := 1) hn1
        have e := w32_id (x := y_ct (y_fy (M 162) (y_cv wh (y_py wh li (M 162) K Q A F st) (M 162 1)) (y_py wh li (M 162) K Q A F st)) (y_end (M 154 20) (M 162 74) (M 162)) (M 162 1) 0 + y_ct (y_fy (M 162) (y_cv wh (y_py wh li (M 162) K Q A F st) (M 162 1)) (y_py wh li (M 162) K Q A F st)) (y_end (M 154 20) (M 162 74) (M 162)) (M 162 1) 1) (by omega)
        have L1 := fun pa hpa => Mo_share_l (fu := fu) (am := k) (pa := pa) hf (hm _ o6) (I.mr.off o6) hp.1 hp.2 hpa
        have he : ∃ M2, Mo_share fu L M1 154 g p k = some (M2, y_shr (y_fy (M 162) (y_cv wh (y_py wh li (M 162) K Q A F st) (M 162 1)) (y_py wh li (M 162) K Q A F st)) (M 162 1) (y_end (M 154 20) (M 162 74) (M 162)) (y_cmp (if wh = 0 then 1 else 0) (y_cv wh (y_py wh li (M 162) K Q A F st) (M 162 1)) (y_nat wh li (M 162))) p k) ∧ y_off M M2 := by
          generalize y_cmp (if wh = 0 then 1 else 0) (y_cv wh (y_py wh li (M 162) K Q A F st) (M 162 1)) (y_nat wh li (M 162)) = cp at t1 ⊢
          generalize y_fy (M 162) (y_cv wh (y_py wh li (M 162) K Q A F st) (M 162 1)) (y_py wh li (M 162) K Q A F st) = fy at *
          generalize y_end (M 154 20) (M 162 74) (M 162) = en at *
          unfold Mo_share y_shr
          rw [l4, if_pos rfl, lt1_def, y_isG I o2, if_pos h, bd1_some, if_neg (by decide), y_18 I o2, y_isI I o2, if_pos hp, bd1_some, if_neg (by decide), Mo_in_ok, if_pos hk, bd1_some, if_neg (by decide), t1, bd2_some]
          by_cases d0 : cp = 0
          · rw [if_pos d0, if_pos d0]; exact ⟨T, rfl, o3⟩
          · rw [if_neg d0, if_neg d0, y_18 I o3, u1, bd2_some, y_18 I o4, v1, bd2_some, lt1_def, e]
            by_cases d1 : y_ct fy en (M 162 1) 0 + y_ct fy en (M 162 1) 1 = 0
            · rw [if_pos d1, if_pos d1]; exact ⟨V, rfl, o5⟩
            · rw [if_neg d1, if_neg d1, y_18 I o5, x1, bd2_some]
              by_cases d2 : fy p < 0
              · rw [if_pos d2, if_pos d2]; exact ⟨X, rfl, o6⟩
              · rw [if_neg d2, if_neg d2]
                obtain ⟨Y, y1, y2⟩ := L1 _ d1
                exact ⟨Y, y1, o6.trans y2⟩
        obtain ⟨M2, m1, m2⟩ := he
        exact y_same.mk m2 hc m1
      · refine y_same.mk (M1 := M) (M2 := mu M 154 0 0) (r := -1) (y_off0 M) ?_ (hn M (y_off.refl M) (fun z => h z.1))
        show Lx_share fu L M 1 g p k = _
        unfold Lx_share
        rw [if_neg (by omega), if_neg (by omega), l1, if_pos rfl, p4, l19, if_pos rfl, p0, l20, if_pos rfl, Wr_has I.wr I.wv, if_pos hp, bd1_some, if_neg (by decide), Lx_waitFor_n I h, bd2_some, if_pos rfl]
    · refine y_same.mk (M1 := M) (M2 := mu M 154 0 0) (r := -1) (y_off0 M) ?_ (hn M (y_off.refl M) (fun z => hp z.2.1))
      show Lx_share fu L M 1 g p k = _
      unfold Lx_share
      rw [if_neg (by omega), if_neg (by omega), l1, if_pos rfl, p4, l19, if_pos rfl, p0, l20, if_pos rfl, Wr_has I.wr I.wv, if_neg hp, bd1_some, if_pos rfl]
  · refine y_same.mk (M1 := M) (M2 := mu M 154 0 0) (r := -1) (y_off0 M) ?_ (hn M (y_off.refl M) (fun z => hk z.2.2))
    show Lx_share fu L M 1 g p k = _
    unfold Lx_share
    by_cases k0 : k < 0
    · rw [if_pos k0]
    · rw [if_neg k0, if_pos (by omega)]
end

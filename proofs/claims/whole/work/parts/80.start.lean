/-! ===== pure: part 80: the LIVES in YEAR 0 ===== -/
/-- the row of the lives alone, as they were in YEAR 0, asked in the YEAR y -/
def y_z (w : Int → Int) (lv y : Int) (i : Int) : Int := if i = 0 then y else if i = 1 then lv else if 26 ≤ i ∧ i < 50 then 16777216 else w i
theorem y_z_b {w : Int → Int} {lv y p : Int} (h : 0 ≤ p ∧ p < 24) : y_z w lv y (2 + p) = w (2 + p) := by
  unfold y_z
  rw [if_neg (by omega), if_neg (by omega), if_neg (by omega)]
theorem y_z_d {w : Int → Int} {lv y p : Int} (h : 0 ≤ p ∧ p < 24) : y_z w lv y (26 + p) = 16777216 := by
  unfold y_z
  rw [if_neg (by omega), if_neg (by omega), if_pos (by omega)]
theorem y_z_p {w : Int → Int} {lv y p : Int} (h : 0 ≤ p ∧ p < 24) : y_z w lv y (50 + p) = w (50 + p) := by
  unfold y_z
  rw [if_neg (by omega), if_neg (by omega), if_neg (by omega)]
theorem y_z_v {w : Int → Int} {lv y : Int} (v : WV lv w) (hb : ∀ l, 0 ≤ l → l < lv → w (2 + l) ≤ 0) (hy : 0 ≤ y ∧ y ≤ 400) : WV lv (y_z w lv y) := by
  have hw := v.1
  have e0 : y_z w lv y 0 = y := if_pos rfl
  have e1 : y_z w lv y 1 = lv := by unfold y_z; rw [if_neg (by decide), if_pos rfl]
  refine ⟨by rw [e1]; omega, by rw [e0]; exact hy, fun p p0 p1 => ?_⟩
  rw [e1] at p1
  have hv := v.2.2 p p0 (by omega)
  have := hb p p0 p1
  rw [y_z_b (by omega), y_z_d (by omega), y_z_p (by omega), e0]
  omega
section
variable {fu : Nat} {L : zL} {M : zM}
theorem Wd_add_ok {a B D P n y p : Int} (h : WL L M a B D P) (ha : a ≠ B ∧ a ≠ D ∧ a ≠ P ∧ B ≠ D ∧ B ≠ P ∧ D ≠ P) (h4 : M a 4 = n) (hn : 0 ≤ n ∧ n < 24) : Wd_add fu L M a y p = some (mu (mu (mu (mu M B n y) D n (-1000000)) P n p) a 4 (n + 1)) := by
  obtain ⟨w1, ⟨w2, w3, w4⟩, w5, w6, w7⟩ := h
  have c0 : ¬ n < 0 := by omega
  have ew : w32 (n + 1) = n + 1 := w32_id (by omega)
  have a4 : mu M B n y a 4 = n := (mx_ne (by omega)).trans h4
  have a1 : mu M B n y a 1 = D := (mx_ne (by omega)).trans w3
  have b4 : mu (mu M B n y) D n (-1000000) a 4 = n := (mx_ne (by omega)).trans a4
  have b2 : mu (mu M B n y) D n (-1000000) a 2 = P := (mx_ne (by omega)).trans ((mx_ne (by omega)).trans w4)
  have c4 : mu (mu (mu M B n y) D n (-1000000)) P n p a 4 = n := (mx_ne (by omega)).trans b4
  unfold Wd_add
  simp only [w1, h4, c0, hn.1, hn.2, w2, w5, and_self, ↓reduceIte, ↓lt1_def, a4, a1, w6, b4, b2, w7, c4, ew]
theorem Wd_startOf_ok (hf : 400 ≤ fu) {a s : Int} {lv : Int} {w : Int → Int} (h : WR L M s (s + 1) (s + 2) (s + 3) lv w) (v : WV lv w) (hb : ∀ l, 0 ≤ l → l < lv → w (2 + l) ≤ 0) (ha : WL L M a (a + 1) (a + 2) (a + 3)) (hs : s + 3 < a ∨ a + 3 < s) :
    ∃ M', Wd_startOf fu L M a s = some M' ∧ (∀ x j, ¬ (x = a ∧ 3 ≤ j ∧ j ≤ 5) → ¬ (a + 1 ≤ x ∧ x ≤ a + 3) → M' x j = M x j) ∧ WR L M' a (a + 1) (a + 2) (a + 3) lv (y_z w lv 0) := by
  have hw := v.1
  have ls := h.1.1
  have la := ha.1
  obtain ⟨Q, hQ⟩ : ∃ Q, Q = mu (mu (mu M a 3 0) a 4 0) a 5 0 := ⟨_, rfl⟩
  obtain ⟨T, k, e, ⟨o, t3, t5, t6⟩⟩ := y_lpx (F := fun k (T : zM) i => Wd_startOf_l6 fu L k T a s i) (N := lv)
    (fun i T => (∀ x j, ¬ (x = a ∧ 3 ≤ j ∧ j ≤ 5) → ¬ (a + 1 ≤ x ∧ x ≤ a + 3) → T x j = M x j) ∧ (T a 3 = i ∧ T a 4 = i) ∧ T a 5 = 0 ∧ ∀ p, 0 ≤ p → p < i → T (a + 1) p = w (2 + p) ∧ T (a + 2) p = -1000000 ∧ T (a + 3) p = w (50 + p))
    (fun k T i h0 hN hJ => by
      obtain ⟨o, ⟨t3, t4⟩, t5, t6⟩ := hJ
      have Ws : WR L T s (s + 1) (s + 2) (s + 3) lv w := h.of fun x j c => o x j (by omega) (by omega)
      have Wa : WL L T a (a + 1) (a + 2) (a + 3) := by
        obtain ⟨w1, ⟨w2, w3, w4⟩, w5⟩ := ha
        exact ⟨w1, ⟨(o _ _ (by omega) (by omega)).trans w2, (o _ _ (by omega) (by omega)).trans w3, (o _ _ (by omega) (by omega)).trans w4⟩, w5⟩
      have ew : w32 (i + 1) = i + 1 := w32_id (by omega)
      have hv := v.2.2 i h0 (by omega)
      have hbi := hb i h0 hN
      have i1 : i < w 1 := by omega
      have s3 : T s 3 = lv := Ws.2.1.1
      have en : w32 (-(w32 (-w (2 + i)))) = w (2 + i) := by rw [w32_id (x := -w (2 + i)) (by omega), w32_id (by omega)]; omega
      have ea := Wd_add_ok (fu := fu) (y := w (2 + i)) (p := w (50 + i)) Wa (by omega) t4 (by omega)
      have e4 : mu (mu (mu (mu T (a + 1) i (w (2 + i))) (a + 2) i (-1000000)) (a + 3) i (w (50 + i))) a 4 (i + 1) a 4 = i + 1 := mx_same _ _ _ _
      refine ⟨mu (mu (mu (mu (mu T (a + 1) i (w (2 + i))) (a + 2) i (-1000000)) (a + 3) i (w (50 + i))) a 4 (i + 1)) a 3 (i + 1), ?_, ?_, ⟨mx_same _ _ _ _, ?_⟩, ?_, ?_⟩
      · show Wd_startOf_s6 _ _ _ _ _ _ _ = _
        unfold Wd_startOf_s6 Wd_addLife
        simp only [ls, s3, hN, ↓reduceIte, Wr_bornIn Ws v, Wr_parentOf Ws v, h0, i1, and_self, bd1_some, la, en, ↓bd1_eq ea, ↓lt1_def, e4, ew]
      · intro x j c1 c2
        rw [mx_ne (by omega), mx_ne (by omega), mx_ne (by omega), mx_ne (by omega), mx_ne (by omega)]
        exact o x j c1 c2
      · rw [mx_ne (by omega), mx_same]
      · rw [mx_ne (by omega), mx_ne (by omega), mx_ne (by omega), mx_ne (by omega), mx_ne (by omega)]
        exact t5
      · intro p p0 p1
        by_cases c : p = i
        · subst c
          refine ⟨?_, ?_, ?_⟩
          · rw [mx_ne (by omega), mx_ne (by omega), mx_ne (by omega), mx_ne (by omega), mx_same]
          · rw [mx_ne (by omega), mx_ne (by omega), mx_ne (by omega), mx_same]
          · rw [mx_ne (by omega), mx_ne (by omega), mx_same]
        · have := t6 p p0 (by omega)
          rw [mx_ne (by omega), mx_ne (by omega), mx_ne (by omega), mx_ne (by omega), mx_ne (by omega)]
          rw [mx_ne (b := a + 2) (by omega), mx_ne (b := a + 2) (by omega), mx_ne (b := a + 2) (by omega), mx_ne (b := a + 2) (by omega), mx_ne (b := a + 2) (by omega)]
          rw [mx_ne (b := a + 3) (by omega), mx_ne (b := a + 3) (by omega), mx_ne (b := a + 3) (by omega), mx_ne (b := a + 3) (by omega), mx_ne (b := a + 3) (by omega)]
          exact this) lv.toNat fu Q 0 (by omega) (by omega) (by omega) (by
      refine ⟨fun x j c1 c2 => ?_, ⟨?_, ?_⟩, ?_, fun p p0 p1 => absurd p1 (by omega)⟩
      · rw [hQ, mx_ne (by omega), mx_ne (by omega), mx_ne (by omega)]
      · rw [hQ, mx_ne (by omega), mx_ne (by omega), mx_same]
      · rw [hQ, mx_ne (by omega), mx_same]
      · rw [hQ, mx_same])
  have Ws : WR L T s (s + 1) (s + 2) (s + 3) lv w := h.of fun x j c => o x j (by omega) (by omega)
  refine ⟨T, ?_, o, ?_⟩
  · unfold Wd_startOf Wd_clear
    simp only [la, ↓reduceIte, ↓lt1_def, bd1_some]
    rw [← hQ]
    refine e.trans ?_
    show Wd_startOf_s6 _ _ _ _ _ _ _ = _
    unfold Wd_startOf_s6
    rw [ls, if_pos rfl, Ws.2.1.1, if_neg (by omega)]
  · obtain ⟨w1, ⟨w2, w3, w4⟩, w5⟩ := ha
    have e0 : y_z w lv 0 0 = 0 := if_pos rfl
    have e1 : y_z w lv 0 1 = lv := by unfold y_z; rw [if_neg (by decide), if_pos rfl]
    refine ⟨⟨w1, ⟨(o _ _ (by omega) (by omega)).trans w2, (o _ _ (by omega) (by omega)).trans w3, (o _ _ (by omega) (by omega)).trans w4⟩, w5⟩, ⟨t3.1, by rw [e1]; exact t3.2, by rw [e0]; exact t5⟩, fun p p0 p1 => ?_⟩
    rw [e1] at p1
    have := t6 p p0 p1
    rw [y_z_b (by omega), y_z_d (by omega), y_z_p (by omega)]
    exact this
end

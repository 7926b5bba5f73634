/-! ===== pure: part 9e: births and deaths told, both ===== -/
theorem iupd_s (w : Int → Int) (i v : Int) : iupd w i v i = v := if_pos rfl
theorem iupd_n {w : Int → Int} {i v j : Int} (h : j ≠ i) : iupd w i v j = w j := if_neg h
theorem mu_row (N : zM) (a i v : Int) : mu N a i v a = iupd (N a) i v := funext fun j => by
  unfold mu iupd
  by_cases c : j = i
  · rw [if_pos ⟨rfl, c⟩, if_pos c]
  · rw [if_neg (fun z => c z.2), if_neg c]
theorem y_mor {N : zM} {a i v x : Int} (h : x ≠ a) : mu N a i v x = N x := funext fun j => mx_ne (Or.inl h)
/-- one is born now of p -/
def y_brn (w : Int → Int) (p : Int) : Int → Int := iupd (iupd (iupd (iupd w (2 + w 1) (w 0)) (26 + w 1) 16777216) (50 + w 1) p) 1 (w 1 + 1)
/-- one dies now -/
def y_bry (w : Int → Int) (p : Int) : Int → Int := iupd w (26 + p) (w 0)
theorem y_wNB_y {w : Int → Int} {p : Int} (h : y_wNB w p = -1) : (0 ≤ p ∧ p < w 1) ∧ ¬ (w 0 = 0 ∨ w 0 - w (2 + p) < 13) ∧ ¬ w (26 + p) < w 0 ∧ w 1 ≠ 24 := by
  unfold y_wNB at h
  by_cases c1 : ¬ (0 ≤ p ∧ p < w 1)
  · rw [if_pos c1] at h; omega
  · rw [if_neg c1] at h
    by_cases c2 : w 0 = 0 ∨ w 0 - w (2 + p) < 13
    · rw [if_pos c2] at h; omega
    · rw [if_neg c2] at h
      by_cases c3 : w (26 + p) < w 0
      · rw [if_pos c3] at h; omega
      · rw [if_neg c3] at h
        by_cases c4 : w 1 = 24
        · rw [if_pos c4] at h; omega
        · exact ⟨by omega, c2, c3, c4⟩
theorem y_wND_y {w : Int → Int} {p : Int} (h : y_wND w p = -1) : (0 ≤ p ∧ p < w 1) ∧ w (26 + p) = 16777216 := by
  unfold y_wND at h
  by_cases c1 : ¬ (0 ≤ p ∧ p < w 1)
  · rw [if_pos c1] at h; omega
  · rw [if_neg c1] at h
    by_cases c2 : w (26 + p) = 16777216
    · exact ⟨by omega, c2⟩
    · rw [if_neg c2] at h; omega
theorem y_brn_0 {w : Int → Int} {p : Int} (h : 0 ≤ w 1 ∧ w 1 < 24) : y_brn w p 0 = w 0 ∧ y_brn w p 1 = w 1 + 1 ∧ (y_brn w p (2 + w 1) = w 0 ∧ y_brn w p (26 + w 1) = 16777216 ∧ y_brn w p (50 + w 1) = p) ∧ ∀ q, 0 ≤ q → q < w 1 → y_brn w p (2 + q) = w (2 + q) ∧ y_brn w p (26 + q) = w (26 + q) ∧ y_brn w p (50 + q) = w (50 + q) := by
  unfold y_brn
  refine ⟨?_, iupd_s _ _ _, ⟨?_, ?_, ?_⟩, fun q q0 q1 => ⟨?_, ?_, ?_⟩⟩
  · rw [iupd_n (by omega), iupd_n (by omega), iupd_n (by omega), iupd_n (by omega)]
  · rw [iupd_n (by omega), iupd_n (by omega), iupd_n (by omega), iupd_s]
  · rw [iupd_n (by omega), iupd_n (by omega), iupd_s]
  · rw [iupd_n (by omega), iupd_s]
  · rw [iupd_n (by omega), iupd_n (by omega), iupd_n (by omega), iupd_n (by omega)]
  · rw [iupd_n (by omega), iupd_n (by omega), iupd_n (by omega), iupd_n (by omega)]
  · rw [iupd_n (by omega), iupd_n (by omega), iupd_n (by omega), iupd_n (by omega)]
theorem y_brn_hi {w : Int → Int} {p i : Int} (h : 0 ≤ w 1 ∧ w 1 < 24) (hi : 74 ≤ i) : y_brn w p i = w i := by
  unfold y_brn
  rw [iupd_n (by omega), iupd_n (by omega), iupd_n (by omega), iupd_n (by omega)]
section
variable {fu : Nat} {L : zL} {M N : zM} {a lv : Int} {w : Int → Int}
theorem WV.congr {w' : Int → Int} (v : WV lv w) (e0 : w' 0 = w 0) (e1 : w' 1 = w 1) (e : ∀ p, 0 ≤ p → p < w 1 → w' (2 + p) = w (2 + p) ∧ w' (26 + p) = w (26 + p) ∧ w' (50 + p) = w (50 + p)) : WV lv w' := by
  obtain ⟨h1, h2, h3⟩ := v
  refine ⟨by rw [e1]; exact h1, by rw [e0]; exact h2, fun p p0 p1 => ?_⟩
  rw [e1] at p1
  obtain ⟨q1, q2, q3⟩ := e p p0 p1
  rw [q1, q2, q3, e0]
  exact h3 p p0 p1
theorem WR.congr {B D P : Int} {w' : Int → Int} (h : WR L M a B D P lv w) (e0 : w' 0 = w 0) (e1 : w' 1 = w 1) (e : ∀ p, 0 ≤ p → p < w 1 → w' (2 + p) = w (2 + p) ∧ w' (26 + p) = w (26 + p) ∧ w' (50 + p) = w (50 + p)) : WR L M a B D P lv w' := by
  obtain ⟨h1, h2, h3⟩ := h
  refine ⟨h1, by rw [e0, e1]; exact h2, fun p p0 p1 => ?_⟩
  rw [e1] at p1
  obtain ⟨q1, q2, q3⟩ := e p p0 p1
  rw [q1, q2, q3]
  exact h3 p p0 p1
theorem y_brn_v {p : Int} (v : WV lv w) (h : y_wNB w p = -1) : WV lv (y_brn w p) := by
  obtain ⟨h1, h2, h3, h4⟩ := y_wNB_y h
  obtain ⟨v1, v2, v3⟩ := v
  obtain ⟨b0, b1, b2, b3⟩ := y_brn_0 (w := w) (p := p) (by omega)
  refine ⟨by rw [b1]; omega, by rw [b0]; exact v2, fun q q0 q1 => ?_⟩
  rw [b1] at q1
  by_cases c : q = w 1
  · rw [c, b2.1, b2.2.1, b2.2.2, b0]
    exact ⟨by omega, Or.inl rfl, by omega⟩
  · obtain ⟨r1, r2, r3⟩ := b3 q q0 (by omega)
    rw [r1, r2, r3, b0]
    exact v3 q q0 (by omega)
theorem y_bry_v {p : Int} (v : WV lv w) (h : y_wND w p = -1) : WV lv (y_bry w p) := by
  obtain ⟨h1, h2⟩ := y_wND_y h
  obtain ⟨v1, v2, v3⟩ := v
  have e : ∀ j, j ≠ 26 + p → y_bry w p j = w j := fun j hj => iupd_n hj
  refine ⟨by rw [e 1 (by omega)]; exact v1, by rw [e 0 (by omega)]; exact v2, fun q q0 q1 => ?_⟩
  rw [e 1 (by omega)] at q1
  have := v3 q q0 q1
  by_cases c : q = p
  · rw [c] at this ⊢
    rw [e (2 + p) (by omega), e 0 (by omega), e (50 + p) (by omega), show y_bry w p (26 + p) = w 0 from iupd_s _ _ _]
    exact ⟨this.1, Or.inr ⟨v2.1, Int.le_refl _⟩, this.2.2⟩
  · rw [e (2 + q) (by omega), e 0 (by omega), e (50 + q) (by omega), e (26 + q) (by omega)]
    exact this
/-- the class's World: one is born -/
theorem Wr_add_y (ha : 0 ≤ a) (h : WR L M a (a + 1) (a + 2) (a + 3) lv w) (v : WV lv w) {p : Int} (hn : w 1 ≠ 24) : ∃ M', Wd_add fu L M a (M a 5) p = some M' ∧ WR L M' a (a + 1) (a + 2) (a + 3) lv (y_brn w p) ∧ ∀ x i, ¬ (a ≤ x ∧ x ≤ a + 3) → M' x i = M x i := by
  have hw := v.1
  obtain ⟨h1, ⟨h2, h3, h4⟩, h5⟩ := h
  have ea := Wd_add_ok (fu := fu) (y := M a 5) (p := p) h1 (by omega) h3 (by omega)
  obtain ⟨b0, b1, b2, b3⟩ := y_brn_0 (w := w) (p := p) (by omega)
  obtain ⟨w1, ⟨w2, w3, w4⟩, w5, w6, w7⟩ := h1
  refine ⟨_, ea, ⟨⟨w1, ⟨?_, ?_, ?_⟩, w5, w6, w7⟩, ⟨?_, ?_, ?_⟩, fun q q0 q1 => ?_⟩, fun x i c => ?_⟩
  · rw [mx_ne (by omega), mx_ne (by omega), mx_ne (by omega), mx_ne (by omega)]; exact w2
  · rw [mx_ne (by omega), mx_ne (by omega), mx_ne (by omega), mx_ne (by omega)]; exact w3
  · rw [mx_ne (by omega), mx_ne (by omega), mx_ne (by omega), mx_ne (by omega)]; exact w4
  · rw [mx_ne (by omega), mx_ne (by omega), mx_ne (by omega), mx_ne (by omega)]; exact h2
  · rw [mx_same, b1]
  · rw [mx_ne (by omega), mx_ne (by omega), mx_ne (by omega), mx_ne (by omega), b0]; exact h4
  · rw [b1] at q1
    by_cases c : q = w 1
    · rw [c, b2.1, b2.2.1, b2.2.2, y_cD_l rfl]
      refine ⟨?_, ?_, ?_⟩
      · rw [mx_ne (by omega), mx_ne (by omega), mx_ne (by omega), mx_same]; exact h4
      · rw [mx_ne (by omega), mx_ne (by omega), mx_same]
      · rw [mx_ne (by omega), mx_same]
    · obtain ⟨r1, r2, r3⟩ := b3 q q0 (by omega)
      rw [r1, r2, r3]
      have := h5 q q0 (by omega)
      refine ⟨?_, ?_, ?_⟩
      · rw [mx_ne (by omega), mx_ne (by omega), mx_ne (by omega), mx_ne (by omega)]; exact this.1
      · rw [mx_ne (by omega), mx_ne (by omega), mx_ne (by omega), mx_ne (by omega)]; exact this.2.1
      · rw [mx_ne (by omega), mx_ne (by omega), mx_ne (by omega), mx_ne (by omega)]; exact this.2.2
  · rw [mx_ne (by omega), mx_ne (by omega), mx_ne (by omega), mx_ne (by omega)]
/-- the class's World: one dies -/
theorem Wr_bury_y (ha : 0 ≤ a) (h : WR L M a (a + 1) (a + 2) (a + 3) lv w) (v : WV lv w) {p : Int} (hp : y_wND w p = -1) : ∃ M', Wd_bury fu L M a p = some M' ∧ WR L M' a (a + 1) (a + 2) (a + 3) lv (y_bry w p) ∧ ∀ x i, ¬ (a ≤ x ∧ x ≤ a + 3) → M' x i = M x i := by
  obtain ⟨q1, q2⟩ := y_wND_y hp
  have hw := v.1
  have hs := Wr_has (fu := fu) h v p
  obtain ⟨⟨w1, ⟨w2, w3, w4⟩, w5, w6, w7⟩, ⟨h2, h3, h4⟩, h5⟩ := h
  have e : ∀ j, j ≠ 26 + p → y_bry w p j = w j := fun j hj => iupd_n hj
  refine ⟨mu M (a + 2) p (M a 5), ?_, ⟨⟨w1, ⟨?_, ?_, ?_⟩, w5, w6, w7⟩, ⟨?_, ?_, ?_⟩, fun q q0 qn => ?_⟩, fun x i c => ?_⟩
  · unfold Wd_bury Wd_setDeath
    rw [w1, if_pos rfl, if_pos rfl, hs, if_pos q1, bd1_some, if_neg (by decide), w3, w6, if_pos rfl, if_pos (show 0 ≤ p ∧ p < ((101, 24) : Int × Int).2 by show 0 ≤ p ∧ p < 24; omega), lt1_def, bd1_some]
  · rw [mx_ne (by omega)]; exact w2
  · rw [mx_ne (by omega)]; exact w3
  · rw [mx_ne (by omega)]; exact w4
  · rw [mx_ne (by omega)]; exact h2
  · rw [mx_ne (by omega), e 1 (by omega)]; exact h3
  · rw [mx_ne (by omega), e 0 (by omega)]; exact h4
  · rw [e 1 (by omega)] at qn
    have := h5 q q0 qn
    have hv := v.2.1
    by_cases c : q = p
    · rw [c] at this ⊢
      rw [e (2 + p) (by omega), e (50 + p) (by omega), show y_bry w p (26 + p) = w 0 from iupd_s _ _ _, y_cD_d (by omega), mx_ne (by omega), mx_same, mx_ne (by omega)]
      exact ⟨this.1, h4, this.2.2⟩
    · rw [e (2 + q) (by omega), e (50 + q) (by omega), e (26 + q) (by omega), mx_ne (by omega), mx_ne (by omega), mx_ne (by omega)]
      exact this
  · rw [mx_ne (by omega)]
/-- the model's row: one is born -/
theorem Mo_isBorn_y {x sz : Int} (hx : L x = (101, sz)) (hs : 74 ≤ sz) (v : WV lv (N x)) {p : Int} (hn : N x 1 ≠ 24) : ∃ N', Mo_isBorn fu L N x p = some N' ∧ N' x = y_brn (N x) p ∧ ∀ y, y ≠ x → N' y = N y := by
  have hw := v.1
  have e2 : w32 (2 + N x 1) = 2 + N x 1 := w32_id (by omega)
  have e26 : w32 (26 + N x 1) = 26 + N x 1 := w32_id (by omega)
  have e50 : w32 (50 + N x 1) = 50 + N x 1 := w32_id (by omega)
  have e1 : w32 (N x 1 + 1) = N x 1 + 1 := w32_id (by omega)
  have a1 : mu (mu (mu N x (2 + N x 1) (N x 0)) x (26 + N x 1) 16777216) x (50 + N x 1) p x 1 = N x 1 := by rw [mx_ne (by omega), mx_ne (by omega), mx_ne (by omega)]
  have g0 : (0 : Int) ≤ 1 ∧ 1 < sz := by omega
  have g00 : (0 : Int) ≤ 0 ∧ 0 < sz := by omega
  have g2 : 0 ≤ 2 + N x 1 ∧ 2 + N x 1 < sz := by omega
  have g26 : 0 ≤ 26 + N x 1 ∧ 26 + N x 1 < sz := by omega
  have g50 : 0 ≤ 50 + N x 1 ∧ 50 + N x 1 < sz := by omega
  refine ⟨mu (mu (mu (mu N x (2 + N x 1) (N x 0)) x (26 + N x 1) 16777216) x (50 + N x 1) p) x 1 (N x 1 + 1), ?_, ?_, fun y hy => ?_⟩
  · unfold Mo_isBorn
    simp only [hx, ↓reduceIte, if_pos g0, ↓lt1_def, e2, e26, e50, if_pos g00, if_pos g2, if_pos g26, if_pos g50, a1, e1]
  · unfold y_brn
    rw [mu_row, mu_row, mu_row, mu_row]
  · rw [y_mor hy, y_mor hy, y_mor hy, y_mor hy]
end

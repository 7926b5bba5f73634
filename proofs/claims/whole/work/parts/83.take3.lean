/-! ===== pure: part 83: take ===== -/
section
variable {fu : Nat} {L : zL} {M : zM} {top : Int}
theorem y_inv.age (I : y_inv L M top) {l : Int} (l0 : 0 ≤ l) (l1 : l < M 154 20) : M 164 l = - M 162 (2 + l) ∧ -99 ≤ M 162 (2 + l) ∧ M 162 (2 + l) ≤ 0 ∧ M 165 l = M 162 (50 + l) := by
  have h := I.2.2.2.2.1.2.2.2.2.2.1 l l0 l1
  have h2 := I.2.2.1.2 l l0 l1
  omega
theorem Tr_take_ok (hf : 400 ≤ fu) (I : y_inv L M top) {g st pt tl wh li m ln : Int} (gc : y_gc L M g st pt tl) (g0 : M g 0 = wh) (g1 : M g 1 = li) (hwh : 0 ≤ wh ∧ wh ≤ 2) (hl : 0 ≤ li ∧ li < M 154 20) (sk : ∀ k, 0 ≤ k → k < st → y_sk (M (M g 5)) (M (M g 6)) (M (M g 7)) (M (M g 8)) (M 154 20) k) (hm : 1 ≤ m ∧ m ≤ st) (hln : 0 ≤ ln ∧ ln ≤ 99) :
    ∃ M' op, Tr_take fu L M 142 19 g m ln = some M' ∧ y_off M M' ∧ y_tr L M' (M 154 20) (M 162) (M (M g 5)) (M (M g 6)) (M (M g 7)) (M (M g 8)) m ln wh li (M 162 74) (M 162 75) op := by
  have hL := I.lay
  have hP := I.ptr
  have l42 : L 142 = (9, 0) := hL 142 (by decide)
  have l33 : L 133 = (6, 0) := hL 133 (by decide)
  have l19 : L 19 = (2, 0) := hL 19 (by decide)
  have l43 : L 143 = (11, 0) := hL 143 (by decide)
  have l47 : L 147 = (11, 0) := hL 147 (by decide)
  have v := I.wv
  have hw := v.1
  have hst := gc.2.2.2.2.1
  have hb : ∀ l, 0 ≤ l → l < M 154 20 → M 162 (2 + l) ≤ 0 := fun l l0 l1 => (I.age l0 l1).2.2.1
  have hq := gc.2.2.2.1
  have hra := I.2.2.2.2.1.2.1
  obtain ⟨A, a1, a2, a3⟩ := Rk_choose_ok (fu := fu) hf hL hP gc (m := m) (n := ln) (by omega) hm.2
  have oA : y_off M A := fun x i c => a2 x i (by omega) (by omega)
  have WA : WR L A 20 21 22 23 (M 154 20) (M 162) := oA.wr y_wa20 I.wr
  have wl143 : WL L A 143 144 145 146 := ⟨l43, ⟨(oA.ptr hP) (143, 0, 144) (by decide +kernel), (oA.ptr hP) (143, 1, 145) (by decide +kernel), (oA.ptr hP) (143, 2, 146) (by decide +kernel)⟩, hL 144 (by decide), hL 145 (by decide), hL 146 (by decide)⟩
  obtain ⟨B, b1, b2, b3⟩ := Wd_startOf_ok (fu := fu) hf (a := 143) (s := 20) WA v hb wl143 (by omega)
  have oB : y_off M B := oA.trans fun x i c => b2 x i (by omega) (by omega)
  have WB : WR L B 20 21 22 23 (M 154 20) (M 162) := oB.wr y_wa20 I.wr
  have wl147 : WL L B 147 148 149 150 := ⟨l47, ⟨(oB.ptr hP) (147, 0, 148) (by decide +kernel), (oB.ptr hP) (147, 1, 149) (by decide +kernel), (oB.ptr hP) (147, 2, 150) (by decide +kernel)⟩, hL 148 (by decide), hL 149 (by decide), hL 150 (by decide)⟩
  obtain ⟨C, c1, c2, c3⟩ := Wd_startOf_ok (fu := fu) hf (a := 147) (s := 20) WB v hb wl147 (by omega)
  have oC : y_off M C := oB.trans fun x i c => c2 x i (by omega) (by omega)
  obtain ⟨D, hD⟩ : ∃ D, D = mu (mu (mu (mu (mu (mu C 147 5 400) 142 6 wh) 142 7 li) 142 8 (M 162 74)) 142 9 (M 162 75)) 142 5 0 := ⟨_, rfl⟩
  have fD : ∀ x i, ¬ (x = 147 ∧ i = 5) → ¬ (x = 142 ∧ 5 ≤ i ∧ i ≤ 9) → D x i = C x i := fun x i q1 q2 => by
    rw [hD, mx_ne (by omega), mx_ne (by omega), mx_ne (by omega), mx_ne (by omega), mx_ne (by omega), mx_ne (by omega)]
  have oD : y_off M D := oC.trans fun x i c => fD x i (by omega) (by omega)
  have d6 : D 142 6 = wh ∧ D 142 7 = li ∧ D 142 8 = M 162 74 ∧ D 142 9 = M 162 75 ∧ D 142 5 = 0 ∧ D 147 5 = 400 := by
    rw [hD]
    simp (disch := omega) only [mx_ne, mx_same, and_self]
  have tbD : y_tb L D wh li (M 162 75) (M 154 20) (M 162) := ⟨b3.of fun x i c => (fD x i (by omega) (by omega)).trans (c2 x i (by omega) (by omega)), d6.1, d6.2.1, d6.2.2.2.1⟩
  have mbD : y_mb D (y_is wh li (M 162 75) (M 154 20) (M 162) 1) (D 142 5) (8 * 0) := by
    rw [d6.2.2.2.2.1]
    exact ⟨fun i i0 i1 => absurd i1 (by omega), fun i j i0 i1 i2 => absurd i2 (by omega), fun k k0 k1 => absurd k1 (by omega), by omega, by omega⟩
  obtain ⟨E, e1, e2, e3⟩ := Tr_addMembers_ok (fu := fu) hf hL (oD.ptr hP) v hb hl.1 tbD hwh (sort := 0) (by omega) mbD
  have oE : y_off M E := oD.trans fun x i c => e2 x i (by omega) (by omega) (by omega)
  have tbE : y_tb L E wh li (M 162 75) (M 154 20) (M 162) := ⟨tbD.1.of fun x i c => e2 x i (by omega) (by omega) (by omega), (e2 _ _ (by omega) (by omega) (by omega)).trans tbD.2.1, (e2 _ _ (by omega) (by omega) (by omega)).trans tbD.2.2.1, (e2 _ _ (by omega) (by omega) (by omega)).trans tbD.2.2.2⟩
  have chain : ∀ {X : zM}, (∀ x i, x ≠ 138 → ¬ (x = 142 ∧ i = 5) → x ≠ 151 → x ≠ 152 → X x i = E x i) → y_rk X (M (M g 5)) (M (M g 6)) (M (M g 7)) (M (M g 8)) m ln ∧ y_tb L X wh li (M 162 75) (M 154 20) (M 162) ∧ X 142 8 = M 162 74 ∧ (WL L X 147 148 149 150 ∧ X 147 3 = M 154 20 ∧ X 147 4 = M 154 20 ∧ X 147 5 = 400 ∧ ∀ p, 0 ≤ p → p < M 154 20 → X 148 p = M 162 (2 + p) ∧ X 150 p = M 162 (50 + p)) := fun {X} hX => by
    have z1 : ∀ x i, x ≠ 138 → x ≠ 142 → ¬ (x = 147 ∧ i = 5) → x ≠ 151 → x ≠ 152 → X x i = C x i := fun x i q1 q2 q3 q4 q5 => (hX x i q1 (by omega) q4 q5).trans ((e2 x i (by omega) q4 q5).trans (fD x i q3 (by omega)))
    have z2 : ∀ x i, x ≠ 138 → x ≠ 142 → ¬ (147 ≤ x ∧ x ≤ 150) → ¬ (143 ≤ x ∧ x ≤ 146) → x ≠ 151 → x ≠ 152 → X x i = A x i := fun x i q1 q2 q3 q4 q5 q6 => (z1 x i q1 q2 (by omega) q5 q6).trans ((c2 x i (by omega) (by omega)).trans (b2 x i (by omega) (by omega)))
    have e147 : y_z (M 162) (M 154 20) 0 1 = M 154 20 := by unfold y_z; rw [if_neg (by decide), if_pos rfl]
    refine ⟨⟨(z2 133 6 (by omega) (by omega) (by omega) (by omega) (by omega) (by omega)).trans a3.1, fun j j0 j1 => ?_⟩, ⟨tbE.1.of fun x i c => hX x i (by omega) (by omega) (by omega) (by omega), (hX _ _ (by omega) (by omega) (by omega) (by omega)).trans tbE.2.1, (hX _ _ (by omega) (by omega) (by omega) (by omega)).trans tbE.2.2.1, (hX _ _ (by omega) (by omega) (by omega) (by omega)).trans tbE.2.2.2⟩, ?_, ⟨?_, ?_, ?_, ?_, fun p p0 p1 => ?_⟩⟩
    · rw [z2 _ _ (by omega) (by omega) (by omega) (by omega) (by omega) (by omega), z2 _ _ (by omega) (by omega) (by omega) (by omega) (by omega) (by omega), z2 _ _ (by omega) (by omega) (by omega) (by omega) (by omega) (by omega), z2 _ _ (by omega) (by omega) (by omega) (by omega) (by omega) (by omega)]
      exact a3.2 j j0 j1
    · exact (hX _ _ (by omega) (by omega) (by omega) (by omega)).trans ((e2 _ _ (by omega) (by omega) (by omega)).trans d6.2.2.1)
    · obtain ⟨w1, ⟨w2, w3, w4⟩, w5⟩ := c3.1
      exact ⟨w1, ⟨(z1 _ _ (by omega) (by omega) (by omega) (by omega) (by omega)).trans w2, (z1 _ _ (by omega) (by omega) (by omega) (by omega) (by omega)).trans w3, (z1 _ _ (by omega) (by omega) (by omega) (by omega) (by omega)).trans w4⟩, w5⟩
    · exact (z1 _ _ (by omega) (by omega) (by omega) (by omega) (by omega)).trans c3.2.1.1
    · exact (z1 _ _ (by omega) (by omega) (by omega) (by omega) (by omega)).trans (c3.2.1.2.1.trans e147)
    · exact (hX _ _ (by omega) (by omega) (by omega) (by omega)).trans ((e2 _ _ (by omega) (by omega) (by omega)).trans d6.2.2.2.2.2)
    · have h := c3.2.2 p p0 (by rw [e147]; exact p1)
      rw [y_z_b (by omega), y_z_p (by omega)] at h
      exact ⟨(z1 148 p (by omega) (by omega) (by omega) (by omega) (by omega)).trans h.1, (z1 150 p (by omega) (by omega) (by omega) (by omega) (by omega)).trans h.2.2⟩
  have rE := chain (X := E) (fun _ _ _ _ _ _ => rfl)
  obtain ⟨F, r, f1, f2, f3, f4⟩ := Tr_vestedAtStart_ok (fu := fu) hf hL (oE.ptr hP) v hb rE.1 (by omega) hln (fun k k0 k1 => sk k k0 (by omega)) tbE e3
  have oF : y_off M F := oE.trans (y_off.of138 f4)
  have head : ∀ {X : zM}, (if r = 0 then (bd1 (Tr_addMembers fu L F 142 1) fun M31 => (bd1 (Tr_addMembers fu L M31 142 2) fun M33 => some M33)) else some F) = some X → Tr_take fu L M 142 19 g m ln = some X := fun {X} hX => by
    have p133 : M 142 0 = 133 := hP (142, 0, 133) (by decide +kernel)
    have pA1 : A 142 1 = 143 := (oA.ptr hP) (142, 1, 143) (by decide +kernel)
    have pA0 : A 19 0 = 20 := (oA.ptr hP) (19, 0, 20) (by decide +kernel)
    have pB2 : B 142 2 = 147 := (oB.ptr hP) (142, 2, 147) (by decide +kernel)
    have pB0 : B 19 0 = 20 := (oB.ptr hP) (19, 0, 20) (by decide +kernel)
    have pC2 : C 142 2 = 147 := (oC.ptr hP) (142, 2, 147) (by decide +kernel)
    have x0 : C g 0 = wh := (oC _ _ (by omega)).trans g0
    have x1 : C g 1 = li := (oC _ _ (by omega)).trans g1
    have x3 : C 19 3 = M 162 74 := (oC _ _ (by omega)).trans hra.2.2.2.1
    have x4 : C 19 4 = M 162 75 := (oC _ _ (by omega)).trans hra.2.2.2.2
    have y0 : mu C 147 5 400 g 0 = wh := (mx_ne (by omega)).trans x0
    have y1 : mu (mu C 147 5 400) 142 6 wh g 1 = li := (mx_ne (by omega)).trans ((mx_ne (by omega)).trans x1)
    have y3 : mu (mu (mu C 147 5 400) 142 6 wh) 142 7 li 19 3 = M 162 74 := (mx_ne (by omega)).trans ((mx_ne (by omega)).trans ((mx_ne (by omega)).trans x3))
    have y4 : mu (mu (mu (mu C 147 5 400) 142 6 wh) 142 7 li) 142 8 (M 162 74) 19 4 = M 162 75 := (mx_ne (by omega)).trans ((mx_ne (by omega)).trans ((mx_ne (by omega)).trans ((mx_ne (by omega)).trans x4)))
    unfold Tr_take
    rw [l42, if_pos rfl, p133, l33, if_pos rfl, a1, bd1_some, l19, if_pos rfl, pA1, l43, if_pos rfl, pA0, b1, bd1_some, pB2, l47, if_pos rfl, pB0, c1, bd1_some, pC2, l47, if_pos rfl, lt1_def, gc.1, if_pos rfl, y0, lt1_def, y1, lt1_def, y3, lt1_def, y4, lt1_def, lt1_def, ← hD, e1, bd1_some, f1, bd2_some]
    exact hX
  by_cases hr : r = 1
  · have hv := f3.1 hr
    refine ⟨F, 0, head (by rw [if_neg (by omega)]), oF, ?_⟩
    obtain ⟨z1, z2, z3, z4⟩ := chain (X := F) (fun x i q _ _ _ => f4 x i q)
    refine ⟨z1, z2, z3, z4, Or.inl rfl, ⟨fun _ => hv, fun _ => rfl⟩, ?_⟩
    have e5 : F 142 5 = E 142 5 := f4 _ _ (by omega)
    rw [e5]
    have mbE : y_mb E (y_is wh li (M 162 75) (M 154 20) (M 162) 1) (E 142 5) 8 := e3
    exact mbE.shut.of (funext fun i => f4 _ _ (by omega)) (funext fun i => f4 _ _ (by omega))
  · have r0 : r = 0 := f2.resolve_right hr
    have zF := chain (X := F) (fun x i q _ _ _ => f4 x i q)
    have e5 : F 142 5 = E 142 5 := f4 _ _ (by omega)
    have mbF : y_mb F (y_is wh li (M 162 75) (M 154 20) (M 162) 1) (F 142 5) (8 * 1) := by
      rw [e5]
      exact e3.of (funext fun i => f4 _ _ (by omega)) (funext fun i => f4 _ _ (by omega))
    obtain ⟨G, g1', g2', g3'⟩ := Tr_addMembers_ok (fu := fu) hf hL (oF.ptr hP) v hb hl.1 zF.2.1 hwh (sort := 1) (by omega) mbF
    have oG : y_off M G := oF.trans fun x i c => g2' x i (by omega) (by omega) (by omega)
    have zG := chain (X := G) (fun x i q1 q2 q3 q4 => (g2' x i q2 q3 q4).trans (f4 x i q1))
    obtain ⟨H, h1', h2', h3'⟩ := Tr_addMembers_ok (fu := fu) hf hL (oG.ptr hP) v hb hl.1 zG.2.1 hwh (sort := 2) (by omega) g3'
    have oH : y_off M H := oG.trans fun x i c => h2' x i (by omega) (by omega) (by omega)
    obtain ⟨z1, z2, z3, z4⟩ := chain (X := H) (fun x i q1 q2 q3 q4 => (h2' x i q2 q3 q4).trans ((g2' x i q2 q3 q4).trans (f4 x i q1)))
    refine ⟨H, 1, head (by rw [if_pos r0, g1', bd1_some, h1', bd1_some]), oH, z1, z2, z3, z4, Or.inr rfl, ⟨fun z => absurd z (by decide), fun z => absurd (f3.2 z) hr⟩, h3'⟩
end

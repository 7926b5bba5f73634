/-! ===== pure: part 9zo: rounds of the law: status, size, gift ===== -/
section
variable {fu : Nat} {L : zL} {M : zM} {top : Int}
theorem c_status (I : y_inv L M top) (w : Int) : y_sam1 L M (fun M => Lx_status fu L M 1 w) (fun M => Mo_status fu L M 154 w) := by
  have e := I.2.2.2.2.2.2.2.2.1
  refine y_sam1.mk (M2 := mu M 154 0 0) (r := if 0 ≤ w ∧ w ≤ 4 then M 153 w else -1) ((y_off.refl M).mu (by omega)) (Lx_status_ok I.lay I.ptr w) ?_
  show Mo_status _ _ _ _ _ = _
  rw [Mo_status_ok I.lay I.ptr]
  by_cases c : 0 ≤ w ∧ w ≤ 4
  · rw [if_pos c, if_pos c, e w c.1 (by omega)]
  · rw [if_neg c, if_neg c]
theorem c_size (I : y_inv L M top) (w : Int) : y_sam1 L M (fun M => Lx_size fu L M 1 w) (fun M => Mo_size fu L M 154 w) := by
  have e := I.2.2.2.2.2.2.1.1.1
  have e2 := I.2.1.2.1
  refine y_sam1.mk (M2 := mu M 154 0 0) (r := if w = 0 then M 2 2 else if w = 1 then M 31 2 else -1) ((y_off.refl M).mu (by omega)) (Lx_size_ok I.lay I.ptr w) ?_
  show Mo_size _ _ _ _ _ = _
  rw [Mo_size_ok I.lay, e, e2]
theorem rd_gift (hf : 42000 ≤ fu) (I : y_inv L M top) (ht : top ≤ 900000) {X : Int → Int} {len i : Int} (hi : 0 ≤ i ∧ i + 6 ≤ len ∧ len ≤ 3072) : y_rd (fun k => Lw_c360 fu X len k top L M 1 154 171 i) top i := by
  have l1 : L 1 = (12, 0) := I.lay 1 (by decide)
  have e6 : w32 (i + 6) = i + 6 := w32_id (by omega)
  obtain ⟨top', L', M1, r, M2, h1, h2, h3, h4⟩ := c_gift (fu := fu) hf I ht
  have l4 : L' 154 = (13, 0) := h3.lay 154 (by decide)
  refine ⟨top', L', M2, fun k => ?_, h3, h4⟩
  show Lw_c360 fu X len k top L M 1 154 171 i = _
  unfold Lw_c360
  rw [l1, if_pos rfl, h1, bd4_some, l4, if_pos rfl, h2, bd2_some, if_pos rfl, lt1_def, e6]
theorem rd_status (hf : 42000 ≤ fu) (I : y_inv L M top) {X : Int → Int} {len i : Int} (hi : 0 ≤ i ∧ i + 6 ≤ len ∧ len ≤ 3072) : y_rd (fun k => Lw_c1422 fu X len k top L M 1 154 171 i) top i := by
  have l1 : L 1 = (12, 0) := I.lay 1 (by decide)
  have l4 : L 154 = (13, 0) := I.lay 154 (by decide)
  have e1 : w32 (i + 1) = i + 1 := w32_id (by omega)
  have e6 : w32 (i + 6) = i + 6 := w32_id (by omega)
  obtain ⟨r, M2, h1, h2, h3⟩ := c_status (fu := fu) I (X (i + 1))
  have h1' : Lx_status fu L M 1 (X (i + 1)) = some r := h1
  have h2' : Mo_status fu L M 154 (X (i + 1)) = some (M2, r) := h2
  refine ⟨top, L, M2, fun k => ?_, I.off h3, by omega⟩
  clear h1 h2 h3
  show Lw_c1422 fu X len k top L M 1 154 171 i = _
  unfold Lw_c1422
  rw [e1, if_pos (by omega), l1, if_pos rfl, h1', bd1_some, if_pos (by omega), l4, if_pos rfl, h2', bd2_some, if_pos rfl, lt1_def, e6]
theorem rd_size (hf : 42000 ≤ fu) (I : y_inv L M top) {X : Int → Int} {len i : Int} (hi : 0 ≤ i ∧ i + 6 ≤ len ∧ len ≤ 3072) : y_rd (fun k => Lw_c1472 fu X len k top L M 1 154 171 i) top i := by
  have l1 : L 1 = (12, 0) := I.lay 1 (by decide)
  have l4 : L 154 = (13, 0) := I.lay 154 (by decide)
  have e1 : w32 (i + 1) = i + 1 := w32_id (by omega)
  have e6 : w32 (i + 6) = i + 6 := w32_id (by omega)
  obtain ⟨r, M2, h1, h2, h3⟩ := c_size (fu := fu) I (X (i + 1))
  have h1' : Lx_size fu L M 1 (X (i + 1)) = some r := h1
  have h2' : Mo_size fu L M 154 (X (i + 1)) = some (M2, r) := h2
  refine ⟨top, L, M2, fun k => ?_, I.off h3, by omega⟩
  clear h1 h2 h3
  show Lw_c1472 fu X len k top L M 1 154 171 i = _
  unfold Lw_c1472
  rw [e1, if_pos (by omega), l1, if_pos rfl, h1', bd1_some, if_pos (by omega), l4, if_pos rfl, h2', bd2_some, if_pos rfl, lt1_def, e6]
/-- the tapes change alike, nothing else -/
theorem y_inv.tape (I : y_inv L M top) {N : zM} (o : ∀ a i, ¬ y_scr a i → ¬ (a = 2 ∧ i = 2) → ¬ (a = 154 ∧ i = 2) → a ≠ 3 → a ≠ 155 → N a i = M a i) (hP : Ptr N) (ht : TapC N ∧ N 154 2 = N 2 2 ∧ ∀ i, 0 ≤ i → i < N 2 2 → N 3 i = N 155 i) : y_inv L N top := by
  obtain ⟨⟨h1, h2, h3⟩, h4, h5, h6, h7, h8, h9, h10, h11, h12⟩ := I
  have row : ∀ a, (∀ i, ¬ y_scr a i ∧ ¬ (a = 2 ∧ i = 2) ∧ ¬ (a = 154 ∧ i = 2)) → a ≠ 3 → a ≠ 155 → N a = M a := fun a q q1 q2 => funext fun i => o a i (q i).1 (q i).2.1 (q i).2.2 q1 q2
  have r4 : N 4 = M 4 := row 4 (fun i => by omega) (by decide) (by decide)
  have r163 : N 163 = M 163 := row 163 (fun i => by omega) (by decide) (by decide)
  have r164 : N 164 = M 164 := row 164 (fun i => by omega) (by decide) (by decide)
  have r165 : N 165 = M 165 := row 165 (fun i => by omega) (by decide) (by decide)
  have r162 : N 162 = M 162 := row 162 (fun i => by omega) (by decide) (by decide)
  have r166 : N 166 = M 166 := row 166 (fun i => by omega) (by decide) (by decide)
  have r168 : N 168 = M 168 := row 168 (fun i => by omega) (by decide) (by decide)
  have r170 : N 170 = M 170 := row 170 (fun i => by omega) (by decide) (by decide)
  have r153 : N 153 = M 153 := row 153 (fun i => by omega) (by decide) (by decide)
  have r167 : N 167 = M 167 := row 167 (fun i => by omega) (by decide) (by decide)
  have r31 : N 31 = M 31 := row 31 (fun i => by omega) (by decide) (by decide)
  have r1 : N 1 = M 1 := row 1 (fun i => by omega) (by decide) (by decide)
  have r129 : ∀ a, 129 ≤ a → a ≤ 132 → N a = M a := fun a a0 a1 => row a (fun i => by omega) (by omega) (by omega)
  have ro : ∀ a, (19 ≤ a ∧ a ≤ 132) ∨ 172 ≤ a → N a = M a := fun a q => row a (fun i => by omega) (by omega) (by omega)
  have e23 : N 2 3 = M 2 3 := o _ _ (by omega) (by omega) (by omega) (by omega) (by omega)
  have m4 : ∀ i, i = 19 ∨ i = 20 ∨ i = 25 ∨ i = 32 ∨ i = 38 ∨ i = 39 ∨ i = 49 → N 154 i = M 154 i := fun i q => o _ _ (by omega) (by omega) (by omega) (by omega) (by omega)
  have m19 := m4 19 (by omega)
  have m20 := m4 20 (by omega)
  have m25 := m4 25 (by omega)
  have m32 := m4 32 (by omega)
  have m38 := m4 38 (by omega)
  have m39 := m4 39 (by omega)
  have m49 := m4 49 (by omega)
  have ora : ∀ {a : Int} {w : Int → Int} {lv : Int} {nm ag pr : Int → Int}, 19 ≤ a ∧ a ≤ 127 → y_ra L M a top w lv nm ag pr → y_ra L N a top w lv nm ag pr := fun ha h =>
    h.of (fun x h0 h1 => ro x (Or.inl (by omega))) (fun x h0 _ => ro x (Or.inr h0)) (fun _ _ _ => rfl) (fun _ _ _ => rfl) (Int.le_refl _)
  refine ⟨⟨h1, hP, h3⟩, ht, ?_, ?_, ?_, fun c => ?_, ⟨?_, fun j j0 j1 => ?_⟩, fun c => ?_, ?_, ?_⟩
  · rw [e23, m20, r4, r163, r164, r165]; exact h5
  · rw [r1, m19, m20, m25, m38, m49, r162]; exact h6
  · rw [r162, m20, r163, r164, r165]; exact ora (by omega) h7
  · rw [m49] at c
    rw [r170, m20, r163, r164, r165]; exact ora (by omega) (h8 c)
  · rw [r31, m25]; exact h9.1
  · rw [m25] at j1
    rw [r31, r166, m25, m20, r163, r164, r165]; exact ora (by omega) (h9.2 j j0 j1)
  · rw [m38] at c
    rw [m20, r168, r1, m39]
    obtain ⟨⟨⟨w1, w2, w3, w4, w5⟩, w6, w7⟩, w8⟩ := h10 c
    refine ⟨⟨⟨w1, by rw [r129 129 (by decide) (by decide)]; exact w2, w3, w4, w5⟩, by rw [r129 129 (by decide) (by decide)]; exact w6, fun p p0 p1 => ?_⟩, w8⟩
    rw [r129 130 (by decide) (by decide), r129 131 (by decide) (by decide), r129 132 (by decide) (by decide)]; exact w7 p p0 p1
  · rw [r153, r167]; exact h11
  · rw [m32]; exact h12
theorem rd_end (hf : 42000 ≤ fu) (I : y_inv L M top) {X : Int → Int} {len i : Int} (hi : 0 ≤ i ∧ i + 6 ≤ len ∧ len ≤ 3072) : y_rd (fun k => Lw_c297 fu X len k top L M 1 154 171 i) top i := by
  have l1 : L 1 = (12, 0) := I.lay 1 (by decide)
  have l4 : L 154 = (13, 0) := I.lay 154 (by decide)
  have e1 : w32 (i + 1) = i + 1 := w32_id (by omega)
  have e6 : w32 (i + 6) = i + 6 := w32_id (by omega)
  have e2 := I.2.1.2.1
  by_cases c : 0 ≤ X (i + 1) ∧ X (i + 1) ≤ M 2 2
  · have h1 := Lx_end_ok (fu := fu) I.lay I.ptr (X (i + 1))
    have h2 := Mo_end_ok (fu := fu) (M := mu M 2 2 (X (i + 1))) I.lay (X (i + 1))
    have e3 : mu M 2 2 (X (i + 1)) 154 2 = M 2 2 := (mx_ne (by omega)).trans e2
    rw [if_pos c] at h1
    rw [e3, if_pos c] at h2
    have t := I.2.1
    refine ⟨top, L, mu (mu (mu M 2 2 (X (i + 1))) 154 0 0) 154 2 (X (i + 1)), fun k => ?_, I.tape (fun a j q q1 q2 q3 q4 => ?_) (((I.ptr.mu (by decide +kernel)).mu (by decide +kernel)).mu (by decide +kernel)) ⟨?_, ?_, fun j j0 j1 => ?_⟩, by omega⟩
    · show Lw_c297 fu X len k top L M 1 154 171 i = _
      unfold Lw_c297
      rw [e1, if_pos (by omega), l1, if_pos rfl, h1, bd2_some, if_pos (by omega), l4, if_pos rfl, h2, bd2_some, if_pos rfl, lt1_def, e6]
    · rw [mx_ne (by omega), mx_ne (by omega), mx_ne (by omega)]
    · have e4 : mu (mu (mu M 2 2 (X (i + 1))) 154 0 0) 154 2 (X (i + 1)) 2 2 = X (i + 1) := (mx_ne (by omega)).trans ((mx_ne (by omega)).trans (mx_same _ _ _ _))
      obtain ⟨⟨t0, t1, t2⟩, _⟩ := t
      unfold TapC
      rw [e4]
      refine ⟨c.1, by omega, fun j j0 j1 => ?_⟩
      rw [mx_ne (by omega), mx_ne (by omega), mx_ne (by omega)]; exact t2 j j0 (by omega)
    · rw [mx_same, mx_ne (by omega), mx_ne (by omega), mx_same]
    · rw [mx_ne (by omega), mx_ne (by omega), mx_same] at j1
      rw [mx_ne (by omega), mx_ne (by omega), mx_ne (by omega), mx_ne (by omega), mx_ne (by omega), mx_ne (by omega)]
      exact t.2.2 j j0 (by omega)
  · have h1 := Lx_end_ok (fu := fu) I.lay I.ptr (X (i + 1))
    have h2 := Mo_end_ok (fu := fu) (M := M) I.lay (X (i + 1))
    rw [if_neg c] at h1
    rw [e2, if_neg c] at h2
    refine ⟨top, L, mu M 154 0 0, fun k => ?_, I.off ((y_off.refl M).mu (by omega)), by omega⟩
    show Lw_c297 fu X len k top L M 1 154 171 i = _
    unfold Lw_c297
    rw [e1, if_pos (by omega), l1, if_pos rfl, h1, bd2_some, if_pos (by omega), l4, if_pos rfl, h2, bd2_some, if_pos rfl, lt1_def, e6]
end

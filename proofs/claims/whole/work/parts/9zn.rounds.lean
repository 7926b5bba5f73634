/-! ===== pure: part 9zn: rounds of the law ===== -/
section
variable {fu : Nat} {L : zL} {M : zM} {top : Int}
theorem rd_fault (hf : 42000 ≤ fu) (I : y_inv L M top) {X : Int → Int} {len i : Int} (hi : 0 ≤ i ∧ i + 6 ≤ len ∧ len ≤ 3072) : y_rd (fun k => Lw_c322 fu X len k top L M 1 154 171 i) top i := by
  have l1 : L 1 = (12, 0) := I.lay 1 (by decide)
  have l4 : L 154 = (13, 0) := I.lay 154 (by decide)
  have e1 : w32 (i + 1) = i + 1 := w32_id (by omega)
  have e6 : w32 (i + 6) = i + 6 := w32_id (by omega)
  obtain ⟨M1, r, M2, h1, h2, h3⟩ := (c_fault (fu := fu) (by omega) I (X (i + 1))).kep I
  have h1' : Lx_fault fu L M 1 (X (i + 1)) = some (M1, r) := h1
  have h2' : Mo_fault fu L M1 154 (X (i + 1)) = some (M2, r) := h2
  refine ⟨top, L, M2, fun k => ?_, h3, by omega⟩
  clear h1 h2 h3
  show Lw_c322 fu X len k top L M 1 154 171 i = _
  unfold Lw_c322
  rw [e1, if_pos (by omega), l1, if_pos rfl, h1', bd2_some, if_pos (by omega), l4, if_pos rfl, h2', bd2_some, if_pos rfl, lt1_def, e6]
theorem rd_family (hf : 42000 ≤ fu) (I : y_inv L M top) {X : Int → Int} {len i : Int} (hi : 0 ≤ i ∧ i + 6 ≤ len ∧ len ≤ 3072) : y_rd (fun k => Lw_c347 fu X len k top L M 1 154 171 i) top i := by
  have l1 : L 1 = (12, 0) := I.lay 1 (by decide)
  have l4 : L 154 = (13, 0) := I.lay 154 (by decide)
  have e6 : w32 (i + 6) = i + 6 := w32_id (by omega)
  obtain ⟨M1, r, M2, h1, h2, h3⟩ := c_family (fu := fu) (by omega) I
  have h1' : Lx_family fu L M 1 = some (M1, r) := h1
  have h2' : Mo_family fu L M1 154 = some (M2, r) := h2
  refine ⟨top, L, M2, fun k => ?_, h3, by omega⟩
  clear h1 h2 h3
  show Lw_c347 fu X len k top L M 1 154 171 i = _
  unfold Lw_c347
  rw [l1, if_pos rfl, h1', bd2_some, l4, if_pos rfl, h2', bd2_some, if_pos rfl, lt1_def, e6]
theorem rd_drop (hf : 42000 ≤ fu) (I : y_inv L M top) {X : Int → Int} {len i : Int} (hi : 0 ≤ i ∧ i + 6 ≤ len ∧ len ≤ 3072) : y_rd (fun k => Lw_c373 fu X len k top L M 1 154 171 i) top i := by
  have l1 : L 1 = (12, 0) := I.lay 1 (by decide)
  have l4 : L 154 = (13, 0) := I.lay 154 (by decide)
  have e1 : w32 (i + 1) = i + 1 := w32_id (by omega)
  have e6 : w32 (i + 6) = i + 6 := w32_id (by omega)
  obtain ⟨M1, r, M2, h1, h2, h3⟩ := c_drop (fu := fu) (by omega) I (X (i + 1))
  have h1' : Lx_drop fu L M 1 (X (i + 1)) = some (M1, r) := h1
  have h2' : Mo_drop fu L M1 154 (X (i + 1)) = some (M2, r) := h2
  refine ⟨top, L, M2, fun k => ?_, h3, by omega⟩
  clear h1 h2 h3
  show Lw_c373 fu X len k top L M 1 154 171 i = _
  unfold Lw_c373
  rw [e1, if_pos (by omega), l1, if_pos rfl, h1', bd2_some, if_pos (by omega), l4, if_pos rfl, h2', bd2_some, if_pos rfl, lt1_def, e6]
theorem rd_pass (hf : 42000 ≤ fu) (I : y_inv L M top) {X : Int → Int} {len i : Int} (hi : 0 ≤ i ∧ i + 6 ≤ len ∧ len ≤ 3072) : y_rd (fun k => Lw_c398 fu X len k top L M 1 154 171 i) top i := by
  have l1 : L 1 = (12, 0) := I.lay 1 (by decide)
  have l4 : L 154 = (13, 0) := I.lay 154 (by decide)
  have e1 : w32 (i + 1) = i + 1 := w32_id (by omega)
  have e6 : w32 (i + 6) = i + 6 := w32_id (by omega)
  obtain ⟨M1, r, M2, h1, h2, h3⟩ := c_pass (fu := fu) (by omega) I (X (i + 1))
  have h1' : Lx_pass fu L M 1 (X (i + 1)) = some (M1, r) := h1
  have h2' : Mo_pass fu L M1 154 (X (i + 1)) = some (M2, r) := h2
  refine ⟨top, L, M2, fun k => ?_, h3, by omega⟩
  clear h1 h2 h3
  show Lw_c398 fu X len k top L M 1 154 171 i = _
  unfold Lw_c398
  rw [e1, if_pos (by omega), l1, if_pos rfl, h1', bd2_some, if_pos (by omega), l4, if_pos rfl, h2', bd2_some, if_pos rfl, lt1_def, e6]
theorem rd_birth (hf : 42000 ≤ fu) (I : y_inv L M top) {X : Int → Int} {len i : Int} (hi : 0 ≤ i ∧ i + 6 ≤ len ∧ len ≤ 3072) : y_rd (fun k => Lw_c423 fu X len k top L M 1 154 171 i) top i := by
  have l1 : L 1 = (12, 0) := I.lay 1 (by decide)
  have l4 : L 154 = (13, 0) := I.lay 154 (by decide)
  have e1 : w32 (i + 1) = i + 1 := w32_id (by omega)
  have e6 : w32 (i + 6) = i + 6 := w32_id (by omega)
  obtain ⟨M1, r, M2, h1, h2, h3⟩ := c_birth (fu := fu) (by omega) I (X (i + 1))
  have h1' : Lx_birth fu L M 1 (X (i + 1)) = some (M1, r) := h1
  have h2' : Mo_birth fu L M1 154 (X (i + 1)) = some (M2, r) := h2
  refine ⟨top, L, M2, fun k => ?_, h3, by omega⟩
  clear h1 h2 h3
  show Lw_c423 fu X len k top L M 1 154 171 i = _
  unfold Lw_c423
  rw [e1, if_pos (by omega), l1, if_pos rfl, h1', bd2_some, if_pos (by omega), l4, if_pos rfl, h2', bd2_some, if_pos rfl, lt1_def, e6]
theorem rd_death (hf : 42000 ≤ fu) (I : y_inv L M top) {X : Int → Int} {len i : Int} (hi : 0 ≤ i ∧ i + 6 ≤ len ∧ len ≤ 3072) : y_rd (fun k => Lw_c448 fu X len k top L M 1 154 171 i) top i := by
  have l1 : L 1 = (12, 0) := I.lay 1 (by decide)
  have l4 : L 154 = (13, 0) := I.lay 154 (by decide)
  have e1 : w32 (i + 1) = i + 1 := w32_id (by omega)
  have e6 : w32 (i + 6) = i + 6 := w32_id (by omega)
  obtain ⟨M1, r, M2, h1, h2, h3⟩ := c_death (fu := fu) (by omega) I (X (i + 1))
  have h1' : Lx_death fu L M 1 (X (i + 1)) = some (M1, r) := h1
  have h2' : Mo_death fu L M1 154 (X (i + 1)) = some (M2, r) := h2
  refine ⟨top, L, M2, fun k => ?_, h3, by omega⟩
  clear h1 h2 h3
  show Lw_c448 fu X len k top L M 1 154 171 i = _
  unfold Lw_c448
  rw [e1, if_pos (by omega), l1, if_pos rfl, h1', bd2_some, if_pos (by omega), l4, if_pos rfl, h2', bd2_some, if_pos rfl, lt1_def, e6]
theorem rd_period (hf : 42000 ≤ fu) (I : y_inv L M top) {X : Int → Int} {len i : Int} (hi : 0 ≤ i ∧ i + 6 ≤ len ∧ len ≤ 3072) : y_rd (fun k => Lw_c473 fu X len k top L M 1 154 171 i) top i := by
  have l1 : L 1 = (12, 0) := I.lay 1 (by decide)
  have l4 : L 154 = (13, 0) := I.lay 154 (by decide)
  have e1 : w32 (i + 1) = i + 1 := w32_id (by omega)
  have e6 : w32 (i + 6) = i + 6 := w32_id (by omega)
  obtain ⟨M1, r, M2, h1, h2, h3⟩ := c_period (fu := fu) (by omega) I (X (i + 1))
  have h1' : Lx_period fu L M 1 (X (i + 1)) = some (M1, r) := h1
  have h2' : Mo_period fu L M1 154 (X (i + 1)) = some (M2, r) := h2
  refine ⟨top, L, M2, fun k => ?_, h3, by omega⟩
  clear h1 h2 h3
  show Lw_c473 fu X len k top L M 1 154 171 i = _
  unfold Lw_c473
  rw [e1, if_pos (by omega), l1, if_pos rfl, h1', bd2_some, if_pos (by omega), l4, if_pos rfl, h2', bd2_some, if_pos rfl, lt1_def, e6]
theorem rd_limit (hf : 42000 ≤ fu) (I : y_inv L M top) {X : Int → Int} {len i : Int} (hi : 0 ≤ i ∧ i + 6 ≤ len ∧ len ≤ 3072) : y_rd (fun k => Lw_c498 fu X len k top L M 1 154 171 i) top i := by
  have l1 : L 1 = (12, 0) := I.lay 1 (by decide)
  have l4 : L 154 = (13, 0) := I.lay 154 (by decide)
  have e1 : w32 (i + 1) = i + 1 := w32_id (by omega)
  have e6 : w32 (i + 6) = i + 6 := w32_id (by omega)
  obtain ⟨M1, r, M2, h1, h2, h3⟩ := c_limit (fu := fu) (by omega) I (X (i + 1))
  have h1' : Lx_limit fu L M 1 (X (i + 1)) = some (M1, r) := h1
  have h2' : Mo_limit fu L M1 154 (X (i + 1)) = some (M2, r) := h2
  refine ⟨top, L, M2, fun k => ?_, h3, by omega⟩
  clear h1 h2 h3
  show Lw_c498 fu X len k top L M 1 154 171 i = _
  unfold Lw_c498
  rw [e1, if_pos (by omega), l1, if_pos rfl, h1', bd2_some, if_pos (by omega), l4, if_pos rfl, h2', bd2_some, if_pos rfl, lt1_def, e6]
theorem rd_rule (hf : 42000 ≤ fu) (I : y_inv L M top) {X : Int → Int} {len i : Int} (hi : 0 ≤ i ∧ i + 6 ≤ len ∧ len ≤ 3072) : y_rd (fun k => Lw_c523 fu X len k top L M 1 154 171 i) top i := by
  have l1 : L 1 = (12, 0) := I.lay 1 (by decide)
  have l4 : L 154 = (13, 0) := I.lay 154 (by decide)
  have e1 : w32 (i + 1) = i + 1 := w32_id (by omega)
  have e6 : w32 (i + 6) = i + 6 := w32_id (by omega)
  obtain ⟨r, M2, h1, h2, h3⟩ := c_rule (fu := fu) (by omega) I (X (i + 1))
  have h1' : Lx_rule fu L M 1 (X (i + 1)) = some r := h1
  have h2' : Mo_rule fu L M 154 (X (i + 1)) = some (M2, r) := h2
  refine ⟨top, L, M2, fun k => ?_, I.off h3, by omega⟩
  clear h1 h2 h3
  show Lw_c523 fu X len k top L M 1 154 171 i = _
  unfold Lw_c523
  rw [e1, if_pos (by omega), l1, if_pos rfl, h1', bd1_some, if_pos (by omega), l4, if_pos rfl, h2', bd2_some, if_pos rfl, lt1_def, e6]
theorem rd_told (hf : 42000 ≤ fu) (I : y_inv L M top) {X : Int → Int} {len i : Int} (hi : 0 ≤ i ∧ i + 6 ≤ len ∧ len ≤ 3072) : y_rd (fun k => Lw_c616 fu X len k top L M 1 154 171 i) top i := by
  have l1 : L 1 = (12, 0) := I.lay 1 (by decide)
  have l4 : L 154 = (13, 0) := I.lay 154 (by decide)
  have e1 : w32 (i + 1) = i + 1 := w32_id (by omega)
  have e2 : w32 (i + 2) = i + 2 := w32_id (by omega)
  have e6 : w32 (i + 6) = i + 6 := w32_id (by omega)
  obtain ⟨r, M2, h1, h2, h3⟩ := c_told (fu := fu) (by omega) I (X (i + 1)) (X (i + 2))
  have h1' : Lx_told fu L M 1 (X (i + 1)) (X (i + 2)) = some r := h1
  have h2' : Mo_told fu L M 154 (X (i + 1)) (X (i + 2)) = some (M2, r) := h2
  refine ⟨top, L, M2, fun k => ?_, I.off h3, by omega⟩
  clear h1 h2 h3
  show Lw_c616 fu X len k top L M 1 154 171 i = _
  unfold Lw_c616
  rw [e1, e2, if_pos (by omega), if_pos (by omega), l1, if_pos rfl, h1', bd1_some, if_pos (by omega), if_pos (by omega), l4, if_pos rfl, h2', bd2_some, if_pos rfl, lt1_def, e6]
theorem rd_written (hf : 42000 ≤ fu) (I : y_inv L M top) {X : Int → Int} {len i : Int} (hi : 0 ≤ i ∧ i + 6 ≤ len ∧ len ≤ 3072) : y_rd (fun k => Lw_c653 fu X len k top L M 1 154 171 i) top i := by
  have l1 : L 1 = (12, 0) := I.lay 1 (by decide)
  have l4 : L 154 = (13, 0) := I.lay 154 (by decide)
  have e1 : w32 (i + 1) = i + 1 := w32_id (by omega)
  have e2 : w32 (i + 2) = i + 2 := w32_id (by omega)
  have e6 : w32 (i + 6) = i + 6 := w32_id (by omega)
  obtain ⟨r, M2, h1, h2, h3⟩ := c_written (fu := fu) (by omega) I (X (i + 1)) (X (i + 2))
  have h1' : Lx_written fu L M 1 (X (i + 1)) (X (i + 2)) = some r := h1
  have h2' : Mo_written fu L M 154 (X (i + 1)) (X (i + 2)) = some (M2, r) := h2
  refine ⟨top, L, M2, fun k => ?_, I.off h3, by omega⟩
  clear h1 h2 h3
  show Lw_c653 fu X len k top L M 1 154 171 i = _
  unfold Lw_c653
  rw [e1, e2, if_pos (by omega), if_pos (by omega), l1, if_pos rfl, h1', bd1_some, if_pos (by omega), if_pos (by omega), l4, if_pos rfl, h2', bd2_some, if_pos rfl, lt1_def, e6]
theorem rd_member (hf : 42000 ≤ fu) (I : y_inv L M top) {X : Int → Int} {len i : Int} (hi : 0 ≤ i ∧ i + 6 ≤ len ∧ len ≤ 3072) : y_rd (fun k => Lw_c690 fu X len k top L M 1 154 171 i) top i := by
  have l1 : L 1 = (12, 0) := I.lay 1 (by decide)
  have l4 : L 154 = (13, 0) := I.lay 154 (by decide)
  have e1 : w32 (i + 1) = i + 1 := w32_id (by omega)
  have e2 : w32 (i + 2) = i + 2 := w32_id (by omega)
  have e6 : w32 (i + 6) = i + 6 := w32_id (by omega)
  obtain ⟨M1, r, M2, h1, h2, h3⟩ := (c_member (fu := fu) (by omega) I (X (i + 1)) (X (i + 2))).kep I
  have h1' : Lx_member fu L M 1 (X (i + 1)) (X (i + 2)) = some (M1, r) := h1
  have h2' : Mo_member fu L M1 154 (X (i + 1)) (X (i + 2)) = some (M2, r) := h2
  refine ⟨top, L, M2, fun k => ?_, h3, by omega⟩
  clear h1 h2 h3
  show Lw_c690 fu X len k top L M 1 154 171 i = _
  unfold Lw_c690
  rw [e1, e2, if_pos (by omega), if_pos (by omega), l1, if_pos rfl, h1', bd2_some, if_pos (by omega), if_pos (by omega), l4, if_pos rfl, h2', bd2_some, if_pos rfl, lt1_def, e6]
theorem rd_vests (hf : 42000 ≤ fu) (I : y_inv L M top) {X : Int → Int} {len i : Int} (hi : 0 ≤ i ∧ i + 6 ≤ len ∧ len ≤ 3072) : y_rd (fun k => Lw_c727 fu X len k top L M 1 154 171 i) top i := by
  have l1 : L 1 = (12, 0) := I.lay 1 (by decide)
  have l4 : L 154 = (13, 0) := I.lay 154 (by decide)
  have e1 : w32 (i + 1) = i + 1 := w32_id (by omega)
  have e2 : w32 (i + 2) = i + 2 := w32_id (by omega)
  have e6 : w32 (i + 6) = i + 6 := w32_id (by omega)
  obtain ⟨M1, r, M2, h1, h2, h3⟩ := (c_vests (fu := fu) (by omega) I (X (i + 1)) (X (i + 2))).kep I
  have h1' : Lx_vests fu L M 1 (X (i + 1)) (X (i + 2)) = some (M1, r) := h1
  have h2' : Mo_vests fu L M1 154 (X (i + 1)) (X (i + 2)) = some (M2, r) := h2
  refine ⟨top, L, M2, fun k => ?_, h3, by omega⟩
  clear h1 h2 h3
  show Lw_c727 fu X len k top L M 1 154 171 i = _
  unfold Lw_c727
  rw [e1, e2, if_pos (by omega), if_pos (by omega), l1, if_pos rfl, h1', bd2_some, if_pos (by omega), if_pos (by omega), l4, if_pos rfl, h2', bd2_some, if_pos rfl, lt1_def, e6]
theorem rd_closes (hf : 42000 ≤ fu) (I : y_inv L M top) {X : Int → Int} {len i : Int} (hi : 0 ≤ i ∧ i + 6 ≤ len ∧ len ≤ 3072) : y_rd (fun k => Lw_c764 fu X len k top L M 1 154 171 i) top i := by
  have l1 : L 1 = (12, 0) := I.lay 1 (by decide)
  have l4 : L 154 = (13, 0) := I.lay 154 (by decide)
  have e1 : w32 (i + 1) = i + 1 := w32_id (by omega)
  have e2 : w32 (i + 2) = i + 2 := w32_id (by omega)
  have e6 : w32 (i + 6) = i + 6 := w32_id (by omega)
  obtain ⟨M1, r, M2, h1, h2, h3⟩ := (c_closes (fu := fu) (by omega) I (X (i + 1)) (X (i + 2))).kep I
  have h1' : Lx_closes fu L M 1 (X (i + 1)) (X (i + 2)) = some (M1, r) := h1
  have h2' : Mo_closes fu L M1 154 (X (i + 1)) (X (i + 2)) = some (M2, r) := h2
  refine ⟨top, L, M2, fun k => ?_, h3, by omega⟩
  clear h1 h2 h3
  show Lw_c764 fu X len k top L M 1 154 171 i = _
  unfold Lw_c764
  rw [e1, e2, if_pos (by omega), if_pos (by omega), l1, if_pos rfl, h1', bd2_some, if_pos (by omega), if_pos (by omega), l4, if_pos rfl, h2', bd2_some, if_pos rfl, lt1_def, e6]
theorem rd_state (hf : 42000 ≤ fu) (I : y_inv L M top) {X : Int → Int} {len i : Int} (hi : 0 ≤ i ∧ i + 6 ≤ len ∧ len ≤ 3072) : y_rd (fun k => Lw_c801 fu X len k top L M 1 154 171 i) top i := by
  have l1 : L 1 = (12, 0) := I.lay 1 (by decide)
  have l4 : L 154 = (13, 0) := I.lay 154 (by decide)
  have e1 : w32 (i + 1) = i + 1 := w32_id (by omega)
  have e6 : w32 (i + 6) = i + 6 := w32_id (by omega)
  obtain ⟨M1, r, M2, h1, h2, h3⟩ := (c_state (fu := fu) (by omega) I (X (i + 1))).kep I
  have h1' : Lx_state fu L M 1 (X (i + 1)) = some (M1, r) := h1
  have h2' : Mo_state fu L M1 154 (X (i + 1)) = some (M2, r) := h2
  refine ⟨top, L, M2, fun k => ?_, h3, by omega⟩
  clear h1 h2 h3
  show Lw_c801 fu X len k top L M 1 154 171 i = _
  unfold Lw_c801
  rw [e1, if_pos (by omega), l1, if_pos rfl, h1', bd2_some, if_pos (by omega), l4, if_pos rfl, h2', bd2_some, if_pos rfl, lt1_def, e6]
theorem rd_count (hf : 42000 ≤ fu) (I : y_inv L M top) {X : Int → Int} {len i : Int} (hi : 0 ≤ i ∧ i + 6 ≤ len ∧ len ≤ 3072) : y_rd (fun k => Lw_c826 fu X len k top L M 1 154 171 i) top i := by
  have l1 : L 1 = (12, 0) := I.lay 1 (by decide)
  have l4 : L 154 = (13, 0) := I.lay 154 (by decide)
  have e1 : w32 (i + 1) = i + 1 := w32_id (by omega)
  have e2 : w32 (i + 2) = i + 2 := w32_id (by omega)
  have e6 : w32 (i + 6) = i + 6 := w32_id (by omega)
  obtain ⟨M1, r, M2, h1, h2, h3⟩ := (c_count (fu := fu) (by omega) I (X (i + 1)) (X (i + 2))).kep I
  have h1' : Lx_count fu L M 1 (X (i + 1)) (X (i + 2)) = some (M1, r) := h1
  have h2' : Mo_count fu L M1 154 (X (i + 1)) (X (i + 2)) = some (M2, r) := h2
  refine ⟨top, L, M2, fun k => ?_, h3, by omega⟩
  clear h1 h2 h3
  show Lw_c826 fu X len k top L M 1 154 171 i = _
  unfold Lw_c826
  rw [e1, e2, if_pos (by omega), if_pos (by omega), l1, if_pos rfl, h1', bd2_some, if_pos (by omega), if_pos (by omega), l4, if_pos rfl, h2', bd2_some, if_pos rfl, lt1_def, e6]
theorem rd_share (hf : 42000 ≤ fu) (I : y_inv L M top) {X : Int → Int} {len i : Int} (hi : 0 ≤ i ∧ i + 6 ≤ len ∧ len ≤ 3072) : y_rd (fun k => Lw_c863 fu X len k top L M 1 154 171 i) top i := by
  have l1 : L 1 = (12, 0) := I.lay 1 (by decide)
  have l4 : L 154 = (13, 0) := I.lay 154 (by decide)
  have e1 : w32 (i + 1) = i + 1 := w32_id (by omega)
  have e2 : w32 (i + 2) = i + 2 := w32_id (by omega)
  have e3 : w32 (i + 3) = i + 3 := w32_id (by omega)
  have e6 : w32 (i + 6) = i + 6 := w32_id (by omega)
  obtain ⟨M1, r, M2, h1, h2, h3⟩ := (c_share (fu := fu) (by omega) I (X (i + 1)) (X (i + 2)) (X (i + 3))).kep I
  have h1' : Lx_share fu L M 1 (X (i + 1)) (X (i + 2)) (X (i + 3)) = some (M1, r) := h1
  have h2' : Mo_share fu L M1 154 (X (i + 1)) (X (i + 2)) (X (i + 3)) = some (M2, r) := h2
  refine ⟨top, L, M2, fun k => ?_, h3, by omega⟩
  clear h1 h2 h3
  show Lw_c863 fu X len k top L M 1 154 171 i = _
  unfold Lw_c863
  rw [e1, e2, e3, if_pos (by omega), if_pos (by omega), if_pos (by omega), l1, if_pos rfl, h1', bd2_some, if_pos (by omega), if_pos (by omega), if_pos (by omega), l4, if_pos rfl, h2', bd2_some, if_pos rfl, lt1_def, e6]
theorem rd_story (hf : 42000 ≤ fu) (I : y_inv L M top) {X : Int → Int} {len i : Int} (hi : 0 ≤ i ∧ i + 6 ≤ len ∧ len ≤ 3072) : y_rd (fun k => Lw_c912 fu X len k top L M 1 154 171 i) top i := by
  have l1 : L 1 = (12, 0) := I.lay 1 (by decide)
  have l4 : L 154 = (13, 0) := I.lay 154 (by decide)
  have e6 : w32 (i + 6) = i + 6 := w32_id (by omega)
  obtain ⟨M1, r, M2, h1, h2, h3⟩ := c_story (fu := fu) (by omega) I
  have h1' : Lx_story fu L M 1 = some (M1, r) := h1
  have h2' : Mo_story fu L M1 154 = some (M2, r) := h2
  refine ⟨top, L, M2, fun k => ?_, h3, by omega⟩
  clear h1 h2 h3
  show Lw_c912 fu X len k top L M 1 154 171 i = _
  unfold Lw_c912
  rw [l1, if_pos rfl, h1', bd2_some, l4, if_pos rfl, h2', bd2_some, if_pos rfl, lt1_def, e6]
theorem rd_storied (hf : 42000 ≤ fu) (I : y_inv L M top) {X : Int → Int} {len i : Int} (hi : 0 ≤ i ∧ i + 6 ≤ len ∧ len ≤ 3072) : y_rd (fun k => Lw_c925 fu X len k top L M 1 154 171 i) top i := by
  have l1 : L 1 = (12, 0) := I.lay 1 (by decide)
  have l4 : L 154 = (13, 0) := I.lay 154 (by decide)
  have e1 : w32 (i + 1) = i + 1 := w32_id (by omega)
  have e6 : w32 (i + 6) = i + 6 := w32_id (by omega)
  obtain ⟨r, M2, h1, h2, h3⟩ := c_storied (fu := fu) (by omega) I (X (i + 1))
  have h1' : Lx_storied fu L M 1 (X (i + 1)) = some r := h1
  have h2' : Mo_storied fu L M 154 (X (i + 1)) = some (M2, r) := h2
  refine ⟨top, L, M2, fun k => ?_, I.off h3, by omega⟩
  clear h1 h2 h3
  show Lw_c925 fu X len k top L M 1 154 171 i = _
  unfold Lw_c925
  rw [e1, if_pos (by omega), l1, if_pos rfl, h1', bd1_some, if_pos (by omega), l4, if_pos rfl, h2', bd2_some, if_pos rfl, lt1_def, e6]
theorem rd_storyState (hf : 42000 ≤ fu) (I : y_inv L M top) {X : Int → Int} {len i : Int} (hi : 0 ≤ i ∧ i + 6 ≤ len ∧ len ≤ 3072) : y_rd (fun k => Lw_c950 fu X len k top L M 1 154 171 i) top i := by
  have l1 : L 1 = (12, 0) := I.lay 1 (by decide)
  have l4 : L 154 = (13, 0) := I.lay 154 (by decide)
  have e1 : w32 (i + 1) = i + 1 := w32_id (by omega)
  have e6 : w32 (i + 6) = i + 6 := w32_id (by omega)
  obtain ⟨M1, r, M2, h1, h2, h3⟩ := (c_storyState (fu := fu) (by omega) I (X (i + 1))).kep I
  have h1' : Lx_storyState fu L M 1 (X (i + 1)) = some (M1, r) := h1
  have h2' : Mo_storyState fu L M1 154 (X (i + 1)) = some (M2, r) := h2
  refine ⟨top, L, M2, fun k => ?_, h3, by omega⟩
  clear h1 h2 h3
  show Lw_c950 fu X len k top L M 1 154 171 i = _
  unfold Lw_c950
  rw [e1, if_pos (by omega), l1, if_pos rfl, h1', bd2_some, if_pos (by omega), l4, if_pos rfl, h2', bd2_some, if_pos rfl, lt1_def, e6]
theorem rd_storyVests (hf : 42000 ≤ fu) (I : y_inv L M top) {X : Int → Int} {len i : Int} (hi : 0 ≤ i ∧ i + 6 ≤ len ∧ len ≤ 3072) : y_rd (fun k => Lw_c975 fu X len k top L M 1 154 171 i) top i := by
  have l1 : L 1 = (12, 0) := I.lay 1 (by decide)
  have l4 : L 154 = (13, 0) := I.lay 154 (by decide)
  have e1 : w32 (i + 1) = i + 1 := w32_id (by omega)
  have e2 : w32 (i + 2) = i + 2 := w32_id (by omega)
  have e6 : w32 (i + 6) = i + 6 := w32_id (by omega)
  obtain ⟨M1, r, M2, h1, h2, h3⟩ := (c_storyVests (fu := fu) (by omega) I (X (i + 1)) (X (i + 2))).kep I
  have h1' : Lx_storyVests fu L M 1 (X (i + 1)) (X (i + 2)) = some (M1, r) := h1
  have h2' : Mo_storyVests fu L M1 154 (X (i + 1)) (X (i + 2)) = some (M2, r) := h2
  refine ⟨top, L, M2, fun k => ?_, h3, by omega⟩
  clear h1 h2 h3
  show Lw_c975 fu X len k top L M 1 154 171 i = _
  unfold Lw_c975
  rw [e1, e2, if_pos (by omega), if_pos (by omega), l1, if_pos rfl, h1', bd2_some, if_pos (by omega), if_pos (by omega), l4, if_pos rfl, h2', bd2_some, if_pos rfl, lt1_def, e6]
theorem rd_good (hf : 42000 ≤ fu) (I : y_inv L M top) {X : Int → Int} {len i : Int} (hi : 0 ≤ i ∧ i + 6 ≤ len ∧ len ≤ 3072) : y_rd (fun k => Lw_c1012 fu X len k top L M 1 154 171 i) top i := by
  have l1 : L 1 = (12, 0) := I.lay 1 (by decide)
  have l4 : L 154 = (13, 0) := I.lay 154 (by decide)
  have e1 : w32 (i + 1) = i + 1 := w32_id (by omega)
  have e6 : w32 (i + 6) = i + 6 := w32_id (by omega)
  obtain ⟨M1, r, M2, h1, h2, h3⟩ := (c_good (fu := fu) (by omega) I (X (i + 1))).kep I
  have h1' : Lx_good fu L M 1 (X (i + 1)) = some (M1, r) := h1
  have h2' : Mo_good fu L M1 154 (X (i + 1)) = some (M2, r) := h2
  refine ⟨top, L, M2, fun k => ?_, h3, by omega⟩
  clear h1 h2 h3
  show Lw_c1012 fu X len k top L M 1 154 171 i = _
  unfold Lw_c1012
  rw [e1, if_pos (by omega), l1, if_pos rfl, h1', bd2_some, if_pos (by omega), l4, if_pos rfl, h2', bd2_some, if_pos rfl, lt1_def, e6]
theorem rd_behind (hf : 42000 ≤ fu) (I : y_inv L M top) {X : Int → Int} {len i : Int} (hi : 0 ≤ i ∧ i + 6 ≤ len ∧ len ≤ 3072) : y_rd (fun k => Lw_c1037 fu X len k top L M 1 154 171 i) top i := by
  have l1 : L 1 = (12, 0) := I.lay 1 (by decide)
  have l4 : L 154 = (13, 0) := I.lay 154 (by decide)
  have e1 : w32 (i + 1) = i + 1 := w32_id (by omega)
  have e2 : w32 (i + 2) = i + 2 := w32_id (by omega)
  have e3 : w32 (i + 3) = i + 3 := w32_id (by omega)
  have e4 : w32 (i + 4) = i + 4 := w32_id (by omega)
  have e6 : w32 (i + 6) = i + 6 := w32_id (by omega)
  obtain ⟨M1, r, M2, h1, h2, h3⟩ := (c_behind (fu := fu) (by omega) I (X (i + 1)) (X (i + 2)) (X (i + 3)) (X (i + 4))).kep I
  have h1' : Lx_behind fu L M 1 (X (i + 1)) (X (i + 2)) (X (i + 3)) (X (i + 4)) = some (M1, r) := h1
  have h2' : Mo_behind fu L M1 154 (X (i + 1)) (X (i + 2)) (X (i + 3)) (X (i + 4)) = some (M2, r) := h2
  refine ⟨top, L, M2, fun k => ?_, h3, by omega⟩
  clear h1 h2 h3
  show Lw_c1037 fu X len k top L M 1 154 171 i = _
  unfold Lw_c1037
  rw [e1, e2, e3, e4, if_pos (by omega), if_pos (by omega), if_pos (by omega), if_pos (by omega), l1, if_pos rfl, h1', bd2_some, if_pos (by omega), if_pos (by omega), if_pos (by omega), if_pos (by omega), l4, if_pos rfl, h2', bd2_some, if_pos rfl, lt1_def, e6]
theorem rd_soonest (hf : 42000 ≤ fu) (I : y_inv L M top) {X : Int → Int} {len i : Int} (hi : 0 ≤ i ∧ i + 6 ≤ len ∧ len ≤ 3072) : y_rd (fun k => Lw_c1098 fu X len k top L M 1 154 171 i) top i := by
  have l1 : L 1 = (12, 0) := I.lay 1 (by decide)
  have l4 : L 154 = (13, 0) := I.lay 154 (by decide)
  have e1 : w32 (i + 1) = i + 1 := w32_id (by omega)
  have e2 : w32 (i + 2) = i + 2 := w32_id (by omega)
  have e3 : w32 (i + 3) = i + 3 := w32_id (by omega)
  have e6 : w32 (i + 6) = i + 6 := w32_id (by omega)
  obtain ⟨M1, r, M2, h1, h2, h3⟩ := (c_soonest (fu := fu) (by omega) I (X (i + 1)) (X (i + 2)) (X (i + 3))).kep I
  have h1' : Lx_soonest fu L M 1 (X (i + 1)) (X (i + 2)) (X (i + 3)) = some (M1, r) := h1
  have h2' : Mo_soonest fu L M1 154 (X (i + 1)) (X (i + 2)) (X (i + 3)) = some (M2, r) := h2
  refine ⟨top, L, M2, fun k => ?_, h3, by omega⟩
  clear h1 h2 h3
  show Lw_c1098 fu X len k top L M 1 154 171 i = _
  unfold Lw_c1098
  rw [e1, e2, e3, if_pos (by omega), if_pos (by omega), if_pos (by omega), l1, if_pos rfl, h1', bd2_some, if_pos (by omega), if_pos (by omega), if_pos (by omega), l4, if_pos rfl, h2', bd2_some, if_pos rfl, lt1_def, e6]
theorem rd_carriers (hf : 42000 ≤ fu) (I : y_inv L M top) {X : Int → Int} {len i : Int} (hi : 0 ≤ i ∧ i + 6 ≤ len ∧ len ≤ 3072) : y_rd (fun k => Lw_c1147 fu X len k top L M 1 154 171 i) top i := by
  have l1 : L 1 = (12, 0) := I.lay 1 (by decide)
  have l4 : L 154 = (13, 0) := I.lay 154 (by decide)
  have e1 : w32 (i + 1) = i + 1 := w32_id (by omega)
  have e6 : w32 (i + 6) = i + 6 := w32_id (by omega)
  obtain ⟨M1, r, M2, h1, h2, h3⟩ := (c_carriers (fu := fu) (by omega) I (X (i + 1))).kep I
  have h1' : Lx_carriers fu L M 1 (X (i + 1)) = some (M1, r) := h1
  have h2' : Mo_carriers fu L M1 154 (X (i + 1)) = some (M2, r) := h2
  refine ⟨top, L, M2, fun k => ?_, h3, by omega⟩
  clear h1 h2 h3
  show Lw_c1147 fu X len k top L M 1 154 171 i = _
  unfold Lw_c1147
  rw [e1, if_pos (by omega), l1, if_pos rfl, h1', bd2_some, if_pos (by omega), l4, if_pos rfl, h2', bd2_some, if_pos rfl, lt1_def, e6]
theorem rd_ways (hf : 42000 ≤ fu) (I : y_inv L M top) {X : Int → Int} {len i : Int} (hi : 0 ≤ i ∧ i + 6 ≤ len ∧ len ≤ 3072) : y_rd (fun k => Lw_c1172 fu X len k top L M 1 154 171 i) top i := by
  have l1 : L 1 = (12, 0) := I.lay 1 (by decide)
  have l4 : L 154 = (13, 0) := I.lay 154 (by decide)
  have e1 : w32 (i + 1) = i + 1 := w32_id (by omega)
  have e6 : w32 (i + 6) = i + 6 := w32_id (by omega)
  obtain ⟨M1, r, M2, h1, h2, h3⟩ := (c_ways (fu := fu) (by omega) I (X (i + 1))).kep I
  have h1' : Lx_ways fu L M 1 (X (i + 1)) = some (M1, r) := h1
  have h2' : Mo_ways fu L M1 154 (X (i + 1)) = some (M2, r) := h2
  refine ⟨top, L, M2, fun k => ?_, h3, by omega⟩
  clear h1 h2 h3
  show Lw_c1172 fu X len k top L M 1 154 171 i = _
  unfold Lw_c1172
  rw [e1, if_pos (by omega), l1, if_pos rfl, h1', bd2_some, if_pos (by omega), l4, if_pos rfl, h2', bd2_some, if_pos rfl, lt1_def, e6]
theorem rd_lowered (hf : 42000 ≤ fu) (I : y_inv L M top) {X : Int → Int} {len i : Int} (hi : 0 ≤ i ∧ i + 6 ≤ len ∧ len ≤ 3072) : y_rd (fun k => Lw_c1197 fu X len k top L M 1 154 171 i) top i := by
  have l1 : L 1 = (12, 0) := I.lay 1 (by decide)
  have l4 : L 154 = (13, 0) := I.lay 154 (by decide)
  have e1 : w32 (i + 1) = i + 1 := w32_id (by omega)
  have e6 : w32 (i + 6) = i + 6 := w32_id (by omega)
  obtain ⟨M1, r, M2, h1, h2, h3⟩ := (c_lowered (fu := fu) (by omega) I (X (i + 1))).kep I
  have h1' : Lx_lowered fu L M 1 (X (i + 1)) = some (M1, r) := h1
  have h2' : Mo_lowered fu L M1 154 (X (i + 1)) = some (M2, r) := h2
  refine ⟨top, L, M2, fun k => ?_, h3, by omega⟩
  clear h1 h2 h3
  show Lw_c1197 fu X len k top L M 1 154 171 i = _
  unfold Lw_c1197
  rw [e1, if_pos (by omega), l1, if_pos rfl, h1', bd2_some, if_pos (by omega), l4, if_pos rfl, h2', bd2_some, if_pos rfl, lt1_def, e6]
theorem rd_witness (hf : 42000 ≤ fu) (I : y_inv L M top) {X : Int → Int} {len i : Int} (hi : 0 ≤ i ∧ i + 6 ≤ len ∧ len ≤ 3072) : y_rd (fun k => Lw_c1222 fu X len k top L M 1 154 171 i) top i := by
  have l1 : L 1 = (12, 0) := I.lay 1 (by decide)
  have l4 : L 154 = (13, 0) := I.lay 154 (by decide)
  have e1 : w32 (i + 1) = i + 1 := w32_id (by omega)
  have e6 : w32 (i + 6) = i + 6 := w32_id (by omega)
  obtain ⟨M1, r, M2, h1, h2, h3⟩ := (c_witness (fu := fu) (by omega) I (X (i + 1))).kep I
  have h1' : Lx_witness fu L M 1 (X (i + 1)) = some (M1, r) := h1
  have h2' : Mo_witness fu L M1 154 (X (i + 1)) = some (M2, r) := h2
  refine ⟨top, L, M2, fun k => ?_, h3, by omega⟩
  clear h1 h2 h3
  show Lw_c1222 fu X len k top L M 1 154 171 i = _
  unfold Lw_c1222
  rw [e1, if_pos (by omega), l1, if_pos rfl, h1', bd2_some, if_pos (by omega), l4, if_pos rfl, h2', bd2_some, if_pos rfl, lt1_def, e6]
theorem rd_course (hf : 42000 ≤ fu) (I : y_inv L M top) {X : Int → Int} {len i : Int} (hi : 0 ≤ i ∧ i + 6 ≤ len ∧ len ≤ 3072) : y_rd (fun k => Lw_c1247 fu X len k top L M 1 154 171 i) top i := by
  have l1 : L 1 = (12, 0) := I.lay 1 (by decide)
  have l4 : L 154 = (13, 0) := I.lay 154 (by decide)
  have e1 : w32 (i + 1) = i + 1 := w32_id (by omega)
  have e2 : w32 (i + 2) = i + 2 := w32_id (by omega)
  have e3 : w32 (i + 3) = i + 3 := w32_id (by omega)
  have e4 : w32 (i + 4) = i + 4 := w32_id (by omega)
  have e6 : w32 (i + 6) = i + 6 := w32_id (by omega)
  obtain ⟨M1, r, M2, h1, h2, h3⟩ := (c_course (fu := fu) (by omega) I (X (i + 1)) (X (i + 2)) (X (i + 3)) (X (i + 4))).kep I
  have h1' : Lx_course fu L M 1 (X (i + 1)) (X (i + 2)) (X (i + 3)) (X (i + 4)) = some (M1, r) := h1
  have h2' : Mo_course fu L M1 154 (X (i + 1)) (X (i + 2)) (X (i + 3)) (X (i + 4)) = some (M2, r) := h2
  refine ⟨top, L, M2, fun k => ?_, h3, by omega⟩
  clear h1 h2 h3
  show Lw_c1247 fu X len k top L M 1 154 171 i = _
  unfold Lw_c1247
  rw [e1, e2, e3, e4, if_pos (by omega), if_pos (by omega), if_pos (by omega), if_pos (by omega), l1, if_pos rfl, h1', bd2_some, if_pos (by omega), if_pos (by omega), if_pos (by omega), if_pos (by omega), l4, if_pos rfl, h2', bd2_some, if_pos rfl, lt1_def, e6]
theorem rd_lates (hf : 42000 ≤ fu) (I : y_inv L M top) {X : Int → Int} {len i : Int} (hi : 0 ≤ i ∧ i + 6 ≤ len ∧ len ≤ 3072) : y_rd (fun k => Lw_c1308 fu X len k top L M 1 154 171 i) top i := by
  have l1 : L 1 = (12, 0) := I.lay 1 (by decide)
  have l4 : L 154 = (13, 0) := I.lay 154 (by decide)
  have e1 : w32 (i + 1) = i + 1 := w32_id (by omega)
  have e6 : w32 (i + 6) = i + 6 := w32_id (by omega)
  obtain ⟨M1, r, M2, h1, h2, h3⟩ := (c_lates (fu := fu) (by omega) I (X (i + 1))).kep I
  have h1' : Lx_lates fu L M 1 (X (i + 1)) = some (M1, r) := h1
  have h2' : Mo_lates fu L M1 154 (X (i + 1)) = some (M2, r) := h2
  refine ⟨top, L, M2, fun k => ?_, h3, by omega⟩
  clear h1 h2 h3
  show Lw_c1308 fu X len k top L M 1 154 171 i = _
  unfold Lw_c1308
  rw [e1, if_pos (by omega), l1, if_pos rfl, h1', bd2_some, if_pos (by omega), l4, if_pos rfl, h2', bd2_some, if_pos rfl, lt1_def, e6]
theorem rd_worst (hf : 42000 ≤ fu) (I : y_inv L M top) {X : Int → Int} {len i : Int} (hi : 0 ≤ i ∧ i + 6 ≤ len ∧ len ≤ 3072) : y_rd (fun k => Lw_c1333 fu X len k top L M 1 154 171 i) top i := by
  have l1 : L 1 = (12, 0) := I.lay 1 (by decide)
  have l4 : L 154 = (13, 0) := I.lay 154 (by decide)
  have e1 : w32 (i + 1) = i + 1 := w32_id (by omega)
  have e2 : w32 (i + 2) = i + 2 := w32_id (by omega)
  have e6 : w32 (i + 6) = i + 6 := w32_id (by omega)
  obtain ⟨M1, r, M2, h1, h2, h3⟩ := (c_worst (fu := fu) (by omega) I (X (i + 1)) (X (i + 2))).kep I
  have h1' : Lx_worst fu L M 1 (X (i + 1)) (X (i + 2)) = some (M1, r) := h1
  have h2' : Mo_worst fu L M1 154 (X (i + 1)) (X (i + 2)) = some (M2, r) := h2
  refine ⟨top, L, M2, fun k => ?_, h3, by omega⟩
  clear h1 h2 h3
  show Lw_c1333 fu X len k top L M 1 154 171 i = _
  unfold Lw_c1333
  rw [e1, e2, if_pos (by omega), if_pos (by omega), l1, if_pos rfl, h1', bd2_some, if_pos (by omega), if_pos (by omega), l4, if_pos rfl, h2', bd2_some, if_pos rfl, lt1_def, e6]
theorem rd_firstBad (hf : 42000 ≤ fu) (I : y_inv L M top) {X : Int → Int} {len i : Int} (hi : 0 ≤ i ∧ i + 6 ≤ len ∧ len ≤ 3072) : y_rd (fun k => Lw_c1370 fu X len k top L M 1 154 171 i) top i := by
  have l1 : L 1 = (12, 0) := I.lay 1 (by decide)
  have l4 : L 154 = (13, 0) := I.lay 154 (by decide)
  have e6 : w32 (i + 6) = i + 6 := w32_id (by omega)
  obtain ⟨M1, r, M2, h1, h2, h3⟩ := (c_firstBad (fu := fu) (by omega) I).kep I
  have h1' : Lx_firstBad fu L M 1 = some (M1, r) := h1
  have h2' : Mo_firstBad fu L M1 154 = some (M2, r) := h2
  refine ⟨top, L, M2, fun k => ?_, h3, by omega⟩
  clear h1 h2 h3
  show Lw_c1370 fu X len k top L M 1 154 171 i = _
  unfold Lw_c1370
  rw [l1, if_pos rfl, h1', bd2_some, l4, if_pos rfl, h2', bd2_some, if_pos rfl, lt1_def, e6]
theorem rd_undo (hf : 42000 ≤ fu) (I : y_inv L M top) {X : Int → Int} {len i : Int} (hi : 0 ≤ i ∧ i + 6 ≤ len ∧ len ≤ 3072) : y_rd (fun k => Lw_c1383 fu X len k top L M 1 154 171 i) top i := by
  have l1 : L 1 = (12, 0) := I.lay 1 (by decide)
  have l4 : L 154 = (13, 0) := I.lay 154 (by decide)
  have e6 : w32 (i + 6) = i + 6 := w32_id (by omega)
  obtain ⟨M1, r, M2, h1, h2, h3⟩ := c_undo (fu := fu) (by omega) I
  have h1' : Lx_undo fu L M 1 = some (M1, r) := h1
  have h2' : Mo_undo fu L M1 154 = some (M2, r) := h2
  refine ⟨top, L, M2, fun k => ?_, h3, by omega⟩
  clear h1 h2 h3
  show Lw_c1383 fu X len k top L M 1 154 171 i = _
  unfold Lw_c1383
  rw [l1, if_pos rfl, h1', bd2_some, l4, if_pos rfl, h2', bd2_some, if_pos rfl, lt1_def, e6]
theorem rd_image (hf : 42000 ≤ fu) (I : y_inv L M top) {X : Int → Int} {len i : Int} (hi : 0 ≤ i ∧ i + 6 ≤ len ∧ len ≤ 3072) : y_rd (fun k => Lw_c1396 fu X len k top L M 1 154 171 i) top i := by
  have l1 : L 1 = (12, 0) := I.lay 1 (by decide)
  have l4 : L 154 = (13, 0) := I.lay 154 (by decide)
  have e6 : w32 (i + 6) = i + 6 := w32_id (by omega)
  obtain ⟨M1, r, M2, h1, h2, h3⟩ := c_image (fu := fu) (by omega) I
  have h1' : Lx_image fu L M 1 = some (M1, r) := h1
  have h2' : Mo_image fu L M1 154 = some (M2, r) := h2
  refine ⟨top, L, M2, fun k => ?_, h3, by omega⟩
  clear h1 h2 h3
  show Lw_c1396 fu X len k top L M 1 154 171 i = _
  unfold Lw_c1396
  rw [l1, if_pos rfl, h1', bd2_some, l4, if_pos rfl, h2', bd2_some, if_pos rfl, lt1_def, e6]
theorem rd_back (hf : 42000 ≤ fu) (I : y_inv L M top) {X : Int → Int} {len i : Int} (hi : 0 ≤ i ∧ i + 6 ≤ len ∧ len ≤ 3072) : y_rd (fun k => Lw_c1409 fu X len k top L M 1 154 171 i) top i := by
  have l1 : L 1 = (12, 0) := I.lay 1 (by decide)
  have l4 : L 154 = (13, 0) := I.lay 154 (by decide)
  have e6 : w32 (i + 6) = i + 6 := w32_id (by omega)
  obtain ⟨M1, r, M2, h1, h2, h3⟩ := c_back (fu := fu) (by omega) I
  have h1' : Lx_back fu L M 1 = some (M1, r) := h1
  have h2' : Mo_back fu L M1 154 = some (M2, r) := h2
  refine ⟨top, L, M2, fun k => ?_, h3, by omega⟩
  clear h1 h2 h3
  show Lw_c1409 fu X len k top L M 1 154 171 i = _
  unfold Lw_c1409
  rw [l1, if_pos rfl, h1', bd2_some, l4, if_pos rfl, h2', bd2_some, if_pos rfl, lt1_def, e6]
theorem rd_most (hf : 42000 ≤ fu) (I : y_inv L M top) {X : Int → Int} {len i : Int} (hi : 0 ≤ i ∧ i + 6 ≤ len ∧ len ≤ 3072) : y_rd (fun k => Lw_c1447 fu X len k top L M 1 154 171 i) top i := by
  have l1 : L 1 = (12, 0) := I.lay 1 (by decide)
  have l4 : L 154 = (13, 0) := I.lay 154 (by decide)
  have e1 : w32 (i + 1) = i + 1 := w32_id (by omega)
  have e6 : w32 (i + 6) = i + 6 := w32_id (by omega)
  obtain ⟨M1, r, M2, h1, h2, h3⟩ := (c_most (fu := fu) (by omega) I (X (i + 1))).kep I
  have h1' : Lx_most fu L M 1 (X (i + 1)) = some (M1, r) := h1
  have h2' : Mo_most fu L M1 154 (X (i + 1)) = some (M2, r) := h2
  refine ⟨top, L, M2, fun k => ?_, h3, by omega⟩
  clear h1 h2 h3
  show Lw_c1447 fu X len k top L M 1 154 171 i = _
  unfold Lw_c1447
  rw [e1, if_pos (by omega), l1, if_pos rfl, h1', bd2_some, if_pos (by omega), l4, if_pos rfl, h2', bd2_some, if_pos rfl, lt1_def, e6]
end

/-! ===== pure: part 9zg: the call fault ===== -/
section
variable {fu : Nat} {L : zL} {M A N Z : zM} {top : Int}
theorem c_fault (hf : 42000 ≤ fu) (I : y_inv L M top) (a : Int) : y_same L M (fun M => Lx_fault fu L M 1 a) (fun M => Mo_fault fu L M 154 a) := by
  have l1 : L 1 = (12, 0) := I.lay 1 (by decide)
  have l4 : L 154 = (13, 0) := I.lay 154 (by decide)
  have l5 : L 5 = (3, 0) := I.lay 5 (by decide)
  have l9 : L 9 = (5, 0) := I.lay 9 (by decide)
  have l16 : L 16 = (7, 0) := I.lay 16 (by decide)
  have p1 : M 1 1 = 5 := I.ptr (1, 1, 5) (by decide +kernel)
  have p2 : M 1 2 = 9 := I.ptr (1, 2, 9) (by decide +kernel)
  have p3 : M 1 3 = 16 := I.ptr (1, 3, 16) (by decide +kernel)
  have e11 : M 1 11 = M 154 19 := I.2.2.2.1.1.1
  have oM : y_off M (mu M 154 0 0) := (y_off.refl M).mu (by omega)
  by_cases a0 : a = 0
  · obtain ⟨A, r, a1, a2, _, a6⟩ := y_fread (fu := fu) (by omega) I
    have oA : y_off M (mu A 154 0 0) := a2.mu (by omega)
    obtain ⟨N', b1, b2, _⟩ := a6 (mu A 154 0 0) (oA.ptr I.ptr) (funext fun i => oA 155 i (by omega)) (oA 154 2 (by omega))
    refine y_same.mk (M1 := A) (M2 := N') (r := r) (oA.trans fun x i c => b2 x i (by omega) (by omega) (by omega) (by omega)) ?_ ?_
    · show Lx_fault _ _ _ _ _ = _
      unfold Lx_fault
      rw [if_pos a0, l1, if_pos rfl, p1, l5, if_pos rfl, a1, bd2_some]
    · show Mo_fault _ _ _ _ _ = _
      unfold Mo_fault Mo_fault_b31
      rw [l4, if_pos rfl, lt1_def, Mo_in_ok, if_pos (by omega), bd1_some, if_neg (by decide), if_neg (by omega), if_pos a0, if_pos rfl, b1, bd2_some]
  · have bad : (M 1 11 = 0 ∨ a < 0 ∨ 2 < a) → y_same L M (fun M => Lx_fault fu L M 1 a) (fun M => Mo_fault fu L M 154 a) := fun z => by
      refine y_same.mk (M1 := M) (M2 := mu M 154 0 0) (r := -2) oM ?_ ?_
      · show Lx_fault _ _ _ _ _ = _
        unfold Lx_fault
        rw [if_neg a0, l1, if_pos rfl]
        by_cases z0 : M 1 11 = 0
        · rw [if_pos z0]
        · rw [if_neg z0]
          by_cases z1 : a < 0
          · rw [if_pos z1]
          · rw [if_neg z1, if_pos (by omega)]
      · show Mo_fault _ _ _ _ _ = _
        have e19 : mu M 154 0 0 154 19 = M 154 19 := mx_ne (by omega)
        unfold Mo_fault
        rw [l4, if_pos rfl, lt1_def, Mo_in_ok]
        by_cases z1 : 0 ≤ a ∧ a ≤ 2
        · rw [if_pos z1, bd1_some, if_neg (by decide), if_pos (by omega), e19, if_pos (by omega)]
        · rw [if_neg z1, bd1_some, if_pos rfl]
    by_cases z : M 1 11 = 0 ∨ a < 0 ∨ 2 < a
    · exact bad z
    · have ch : ∀ R, (if (a : Int) = 1 then Gr_read fu L M 9 else Sr_read fu L M 16) = some R → Lx_fault fu L M 1 a = some R := fun R e => by
        unfold Lx_fault
        rw [if_neg a0, l1, if_pos rfl, if_neg (by omega), if_neg (by omega), if_neg (by omega), p2, l9, if_pos rfl, p3, l16, if_pos rfl]
        by_cases c1 : a = 1
        · rw [if_pos c1] at e ⊢
          rw [e, bd2_some]
        · rw [if_neg c1] at e ⊢
          rw [e, bd2_some]
      have mh : ∀ (T : zM) R, y_off M T → (if (a : Int) = 1 then Mo_readsGift fu L (mu T 154 0 0) 154 else Mo_readsStory fu L (mu T 154 0 0) 154) = some R → Mo_fault fu L T 154 a = some R := fun T R o e => by
        have e19 : mu T 154 0 0 154 19 = M 154 19 := (mx_ne (by omega)).trans (o _ _ (by omega))
        unfold Mo_fault Mo_fault_b31
        rw [l4, if_pos rfl, lt1_def, Mo_in_ok, if_pos (by omega), bd1_some, if_neg (by decide), if_pos (by omega), e19, if_neg (by omega), if_neg a0]
        by_cases c1 : a = 1
        · rw [if_pos c1] at e ⊢
          rw [if_pos rfl, e, bd2_some]
        · rw [if_neg c1] at e ⊢
          rw [if_pos rfl, e, bd2_some]
      by_cases c1 : a = 1
      · obtain ⟨A, r, a1, a2, a3, a4⟩ := y_gread (fu := fu) hf I I (y_off.refl M)
        have oA : y_off M (mu A 154 0 0) := a2.mu (by omega)
        obtain ⟨N', b1, b2, _⟩ := a4 _ (oA.ofm I)
        exact y_same.mk (M1 := A) (M2 := N') (r := r) (oA.trans b2.off) (ch _ (by rw [if_pos c1]; exact a1)) (mh _ _ a2 (by rw [if_pos c1]; exact b1))
      · obtain ⟨A, r, a1, a2, a3, a4, a5⟩ := y_sread (fu := fu) (by omega) I (y_off.refl M)
        have oA : y_off M (mu A 154 0 0) := a2.mu (by omega)
        obtain ⟨N', b1, b2, _⟩ := a5 _ (oA.ofm I)
        exact y_same.mk (M1 := A) (M2 := N') (r := r) (oA.trans b2.off) (ch _ (by rw [if_neg c1]; exact a1)) (mh _ _ a2 (by rw [if_neg c1]; exact b1))
end

/-! ===== pure: part 9zk: the call gift: the class ===== -/
section
variable {fu : Nat} {L L2 : zL} {M A B N P M2 Z : zM} {top : Int}
abbrev y_kkp (L : zL) (A B : zM) (top : Int) : Prop := (B 31 1 = (if A 31 1 + 1 < 16 then A 31 1 + 1 else 0) ∧ B 31 2 = min (A 31 2 + 1) 16) ∧ (∀ x i, ¬ y_wri (33 + 6 * A 31 1) x i → ¬ (x = 31 ∧ (i = 1 ∨ i = 2)) → B x i = A x i) ∧ y_ra L B (33 + 6 * A 31 1) top (A 162) (A 154 20) (A 163) (A 164) (A 165) ∧ Ptr B
abbrev y_gC (M2 : zM) (c top : Int) : zM := mu (mu (mu M2 24 c top) 19 2 (c + 1)) 2 2 0
theorem y_gift_c1 (hf : 42000 ≤ fu) (IA : y_inv L A top) (ht : top ≤ 900000) (gb : (0 ≤ A 9 10 ∧ A 9 10 ≤ 31) ∧ (0 ≤ A 9 11 ∧ A 9 11 ≤ 16) ∧ 0 ≤ A 9 12 ∧ A 9 12 ≤ 600) :
    ∃ L2 B M2, Ac_keep fu L A 31 19 = some B ∧ y_kkp L A B top ∧ (∀ x, (x < 31 ∨ 129 ≤ x) → B x = A x) ∧ Gf_init fu (top + 1) (lu L top (4, 0)) (mz B top) top 9 = some (top + 7, L2, M2) ∧ y_gl L L2 (mz B top) top 6 ∧ y_gs (mz B top) M2 top 6 ∧ (∀ a, 9 ≤ a → a ≤ 15 → mz B top a = A a) ∧ ∀ a, a < top → M2 a = B a := by
  have h172 := IA.1.2.2
  have AP := IA.ptr
  obtain ⟨B, k1, kk, kr⟩ := y_keepc (fu := fu) (by omega) IA
  have hP : ∀ a, a < top → mz B top a = B a := fun a ha => funext fun i => if_neg (by omega)
  have hPA : ∀ a, 9 ≤ a → a ≤ 15 → mz B top a = A a := fun a x0 x1 => by rw [hP a (by omega), kr a (by omega)]
  have hP9 : ∀ i, mz B top 9 i = A 9 i := fun i => by rw [hPA 9 (by decide) (by decide)]
  have hPP : ∀ j, 1 ≤ j → j ≤ 6 → mz B top 9 j = 9 + j := fun j j0 j1 => by
    rw [hP9]
    have hj : j = 1 ∨ j = 2 ∨ j = 3 ∨ j = 4 ∨ j = 5 ∨ j = 6 := by omega
    rcases hj with z | z | z | z | z | z
    · rw [z]; exact AP (9, 1, 10) (by decide +kernel)
    · rw [z]; exact AP (9, 2, 11) (by decide +kernel)
    · rw [z]; exact AP (9, 3, 12) (by decide +kernel)
    · rw [z]; exact AP (9, 4, 13) (by decide +kernel)
    · rw [z]; exact AP (9, 5, 14) (by decide +kernel)
    · rw [z]; exact AP (9, 6, 15) (by decide +kernel)
  obtain ⟨L2, M2, g1, gl, gs⟩ := Gf_init_y (fu := fu) (P := mz B top) IA.lay hPP h172 (by omega) (by rw [hP9]; exact gb.1) (by rw [hP9]; exact gb.2.1) (by rw [hP9]; exact gb.2.2)
  exact ⟨L2, B, M2, k1, kk, kr, g1, gl, gs, hPA, fun a ha => (gs.1 a ha).trans (hP a ha)⟩
theorem y_gift_c2 (hL : Lay L) (MP : Ptr M) (AP : Ptr A) (BP : Ptr B) (h172 : 172 ≤ top) (ht : top ≤ 900000) (h11 : ¬ M 1 11 = 0) (a1 : Gr_read fu L M 9 = some (A, -1)) (s2 : A 19 2 = M 162 76) (c8 : 0 ≤ M 162 76 ∧ M 162 76 < 8)
    (k1 : Ac_keep fu L A 31 19 = some B) (kr : ∀ x, (x < 31 ∨ 129 ≤ x) → B x = A x) (g1 : Gf_init fu (top + 1) (lu L top (4, 0)) (mz B top) top 9 = some (top + 7, L2, M2)) (hL2 : Lay L2) (lt : L2 top = (4, 0)) (m2b : ∀ a, a < top → M2 a = B a) :
    Lx_gift fu top L M 1 = some (top + 7, L2, y_gC M2 (M 162 76) top, M 162 76) := by
  have l1 : L 1 = (12, 0) := hL 1 (by decide)
  have l9 : L 9 = (5, 0) := hL 9 (by decide)
  have l19 : L 19 = (2, 0) := hL 19 (by decide)
  have l31 : L 31 = (1, 0) := hL 31 (by decide)
  have p2 : M 1 2 = 9 := MP (1, 2, 9) (by decide +kernel)
  have q14 : A 1 4 = 19 := AP (1, 4, 19) (by decide +kernel)
  have q16 : A 1 6 = 31 := AP (1, 6, 31) (by decide +kernel)
  have q19 : A 19 1 = 24 := AP (19, 1, 24) (by decide +kernel)
  have b14 : B 1 4 = 19 := BP (1, 4, 19) (by decide +kernel)
  have L2_1 : L2 1 = (12, 0) := hL2 1 (by decide)
  have L2_2 : L2 2 = (8, 0) := hL2 2 (by decide)
  have L2_19 : L2 19 = (2, 0) := hL2 19 (by decide)
  have L2_24 : L2 24 = (103, 8) := hL2 24 (by decide)
  have la1 : lu L top (4, 0) 1 = (12, 0) := (if_neg (by omega)).trans l1
  have pm2 : mz B top 1 2 = 9 := by
    have e : mz B top 1 = B 1 := funext fun i => if_neg (by omega)
    rw [e]; exact BP (1, 2, 9) (by decide +kernel)
  have m19 : ∀ i, M2 19 i = A 19 i := fun i => by rw [m2b 19 (by omega), kr 19 (by omega)]
  have m1 : ∀ i, M2 1 i = B 1 i := fun i => by rw [m2b 1 (by omega)]
  have c0 : ¬ M 162 76 < 0 := by omega
  have ce : w32 (M 162 76 + 1) = M 162 76 + 1 := w32_id (by omega)
  have cm : w32 (M 162 76 + 1 - 1) = M 162 76 := by rw [w32_id (by omega)]; omega
  have tb : top < 2000000000 := by omega
  have g8 : 0 ≤ M 162 76 ∧ M 162 76 < ((103, 8) : Int × Int).2 := c8
  clear ht
  generalize M 162 76 = c at *
  have s22 : M2 19 2 = c := (m19 2).trans s2
  have s21 : M2 19 1 = 24 := (m19 1).trans q19
  have t22 : mu M2 24 c top 19 2 = c := (mx_ne (Or.inl (by decide))).trans s22
  have ag : Af_addGift fu L2 M2 19 top = some (mu (mu M2 24 c top) 19 2 (c + 1)) := by
    unfold Af_addGift
    rw [L2_19, if_pos rfl, s22, if_neg c0, s21, L2_24, if_pos rfl, if_pos g8.2, lt, if_pos rfl, if_pos g8, lt1_def, t22, ce, lt1_def]
  have u10 : mu (mu M2 24 c top) 19 2 (c + 1) 1 0 = 2 := by
    rw [mx_ne (Or.inl (by decide)), mx_ne (Or.inl (by decide)), m1]; exact BP (1, 0, 2) (by decide +kernel)
  have u14 : mu (mu (mu M2 24 c top) 19 2 (c + 1)) 2 2 0 1 4 = 19 := by
    rw [mx_ne (Or.inl (by decide)), mx_ne (Or.inl (by decide)), mx_ne (Or.inl (by decide)), m1]; exact b14
  have u192 : mu (mu (mu M2 24 c top) 19 2 (c + 1)) 2 2 0 19 2 = c + 1 := by
    rw [mx_ne (Or.inl (by decide)), mx_same]
  unfold Lx_gift
  rw [l1, if_pos rfl, if_neg h11, p2, l9, if_pos rfl, a1, bd2_some, if_pos rfl, q14, l19, if_pos rfl, s2, if_pos c8.2, q16, l31, if_pos rfl, k1, bd1_some, if_pos tb, lt1_def, lt1_def, lt1_def, la1, if_pos rfl, pm2, g1, bd3_some, b14, L2_19, if_pos rfl, ag, bd1_some, L2_1, if_pos rfl, u10, L2_2, if_pos rfl, lt1_def, u14, L2_19, if_pos rfl, u192, cm]
end

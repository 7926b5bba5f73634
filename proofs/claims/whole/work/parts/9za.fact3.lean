/-! ===== pure: part 9za: facts: how both begin ===== -/
section
variable {fu : Nat} {L : zL} {M0 M M1 N : zM} {top b b1 : Int}
/-- no two words stand at one place -/
theorem y_W_ne {s s' : Nat} (h : y_W M0 s b) (hne : (zstr.getD s []).map (fun (c : Nat) => (c : Int)) ≠ (zstr.getD s' []).map (fun (c : Nat) => (c : Int))) : ¬ y_W M0 s' b := fun h' => hne ((y_pt_w h).2.symm.trans (y_pt_w h').2)
theorem y_W_lf (I : y_inv L M0 top) {s : Nat} (h : y_W M0 s b) (hl : 2 ≤ (zstr.getD s []).length) : y_lf M0 b = -1 := by
  by_cases c : y_lf M0 b = -1
  · exact c
  · have e := (y_pt_w h).2.symm.trans (y_pt_l I c).2
    have e2 := congrArg List.length e
    rw [List.length_map] at e2
    have e3 : (zstr.getD s []).length = 1 := e2
    omega
/-- a fact may begin here, the model's words -/
def y_fb (M0 : zM) (b : Int) : Prop := y_lf M0 b ≠ -1 ∨ y_W M0 21 b ∨ y_W M0 22 b ∨ y_W M0 23 b ∨ y_W M0 24 b ∨ y_W M0 25 b
theorem y_mfact (hf : 42000 ≤ fu) (I : y_inv L M0 top) {rm : zt_Mo_readsAll} (hN : y_rm M0 N b) (hw : N 154 5 = -1) (c : ¬ y_G M0 40 b) :
    (¬ y_fb M0 b → Mo_readsFact_r fu rm L N 154 = some (y_bd N b)) ∧ (y_fb M0 b → y_W M0 25 b → N 154 13 = 5 → Mo_readsFact_r fu rm L N 154 = some (y_bd N b)) ∧ (y_fb M0 b → ¬ (y_W M0 25 b ∧ N 154 13 = 5) → Mo_readsFact_r fu rm L N 154 = Mo_readsFact_b121 fu rm L N 154) := by
  have l4 : L 154 = (13, 0) := I.lay 154 (by decide)
  obtain ⟨m1, m2⟩ := y_lf_m I b
  have b94n : Mo_readsFact_b94 fu rm L N 154 0 = some (y_bd N b) := by
    unfold Mo_readsFact_b94
    rw [if_pos rfl, l4, if_pos rfl, rm_bad I hN, bd1_some]
  have wd : ∀ s, s < zstr.length → Mo_isWord fu L N 154 s = some (if y_W M0 s b then 1 else 0) := fun s hs => by
    rw [rm_word (by omega) I hN hs]
    by_cases z : y_W M0 s b
    · rw [if_pos ⟨hw, z⟩, if_pos z]
    · rw [if_neg (fun q => z q.2), if_neg z]
  have b39 : ∀ y, (y = 0 ∧ y_lf M0 b = -1 ∨ y = 1 ∧ y_lf M0 b ≠ -1) → Mo_readsFact_b39 fu rm L N 154 y = (if y_lf M0 b ≠ -1 ∨ y_W M0 21 b ∨ y_W M0 22 b ∨ y_W M0 23 b ∨ y_W M0 24 b ∨ y_W M0 25 b then Mo_readsFact_b94 fu rm L N 154 1 else some (y_bd N b)) := fun y hy => by
    unfold Mo_readsFact_b39
    rcases hy with ⟨y0, hl⟩ | ⟨y1, hl⟩
    · rw [if_pos y0, l4, if_pos rfl, wd 21 (by decide), bd1_some, wd 22 (by decide), bd1_some, wd 23 (by decide), bd1_some, wd 24 (by decide), bd1_some, wd 25 (by decide), bd1_some, b94n]
      by_cases w21 : y_W M0 21 b
      · rw [if_pos w21, if_neg (by decide), if_pos (Or.inr (Or.inl w21))]
      rw [if_neg w21, if_pos rfl]
      by_cases w22 : y_W M0 22 b
      · rw [if_pos w22, if_neg (by decide), if_pos (Or.inr (Or.inr (Or.inl w22)))]
      rw [if_neg w22, if_pos rfl]
      by_cases w23 : y_W M0 23 b
      · rw [if_pos w23, if_neg (by decide), if_pos (Or.inr (Or.inr (Or.inr (Or.inl w23))))]
      rw [if_neg w23, if_pos rfl]
      by_cases w24 : y_W M0 24 b
      · rw [if_pos w24, if_neg (by decide), if_pos (Or.inr (Or.inr (Or.inr (Or.inr (Or.inl w24)))))]
      rw [if_neg w24, if_pos rfl]
      by_cases w25 : y_W M0 25 b
      · rw [if_pos w25, if_neg (by decide), if_pos (Or.inr (Or.inr (Or.inr (Or.inr (Or.inr w25)))))]
      · rw [if_neg w25, if_pos rfl, if_neg]
        intro z
        rcases z with z | z | z | z | z | z
        · exact z hl
        · exact w21 z
        · exact w22 z
        · exact w23 z
        · exact w24 z
        · exact w25 z
    · rw [if_neg (by omega), if_pos (Or.inl hl)]
  have head : Mo_readsFact_r fu rm L N 154 = (if y_lf M0 b ≠ -1 ∨ y_W M0 21 b ∨ y_W M0 22 b ∨ y_W M0 23 b ∨ y_W M0 24 b ∨ y_W M0 25 b then Mo_readsFact_b94 fu rm L N 154 1 else some (y_bd N b)) := by
    unfold Mo_readsFact_r
    rw [l4, if_pos rfl, rm_sign I hN, if_neg (fun z => c z.2), bd1_some, if_pos rfl, rm_letter I hN, if_pos hw, bd1_some]
    by_cases hc : ltr (M0 3) (M0 2 2) b = 0 ∨ 104 < ltr (M0 3) (M0 2 2) b
    · rw [if_pos hc, if_pos rfl]
      exact b39 0 (Or.inl ⟨rfl, m1 hc⟩)
    · obtain ⟨q1, q2⟩ := m2 hc
      rw [if_neg hc, if_neg q1, bd1_some, rm_lifeOf (by omega) I hN.1, bd1_some, q2]
      by_cases hl : y_lf M0 b = -1
      · rw [if_pos hl]; exact b39 0 (Or.inl ⟨rfl, hl⟩)
      · rw [if_neg hl]; exact b39 1 (Or.inr ⟨rfl, hl⟩)
  refine ⟨fun z => ?_, fun z w h => ?_, fun z w => ?_⟩
  · unfold y_fb at z
    rw [head, if_neg z]
  · unfold y_fb at z
    rw [head, if_pos z]
    unfold Mo_readsFact_b94
    rw [if_neg (by decide), l4, if_pos rfl, wd 25 (by decide), if_pos w, bd1_some, if_neg (by decide), if_pos h, rm_bad I hN, bd1_some]
  · unfold y_fb at z
    rw [head, if_pos z]
    unfold Mo_readsFact_b94
    rw [if_neg (by decide), l4, if_pos rfl, wd 25 (by decide)]
    by_cases w25 : y_W M0 25 b
    · rw [if_pos w25, bd1_some, if_neg (by decide), if_neg (fun h => w ⟨w25, h⟩)]
    · rw [if_neg w25, bd1_some, if_pos rfl]
/-- the model counts a fact -/
theorem Mo_oneFact_y (I : y_inv L M0 top) (hN : y_rm M0 N b) (h : N 159 2 < 16) : ∃ N1, Mo_oneFact fu L N 154 = some N1 ∧ N1 159 2 = N 159 2 + 1 ∧ (∀ a i, ¬ (a = 159 ∧ i = 2) → N1 a i = N a i) ∧ y_rm M0 N1 b ∧ 0 ≤ N 159 2 + 1 ∨ N 159 2 < 0 := by
  have l4 : L 154 = (13, 0) := I.lay 154 (by decide)
  have l59 : L 159 = (101, 315) := I.lay 159 (by decide)
  have p12 : N 154 12 = 159 := (hN.ptr I) (154, 12, 159) (by decide +kernel)
  have g2 : (0 : Int) ≤ 2 ∧ (2 : Int) < ((101, 315) : Int × Int).2 := by decide
  by_cases c : 0 ≤ N 159 2
  · refine ⟨mu N 159 2 (N 159 2 + 1), Or.inl ⟨?_, mx_same _ _ _ _, fun a i q => mx_ne (by omega), ⟨hN.1.mu (by omega), y_mtok hN.2 (fun j _ => mx_ne (by omega)) (funext fun j => mx_ne (by omega))⟩, by omega⟩⟩
    unfold Mo_oneFact
    rw [l4, if_pos rfl, p12, l59, if_pos rfl, if_pos g2, if_neg (by omega), if_pos g2, if_pos g2, w32_id (by omega), lt1_def]
  · exact ⟨N, Or.inr (by omega)⟩
theorem Mo_oneFact_n (I : y_inv L M0 top) (hN : y_rm M0 N b) (h : N 159 2 = 16) : Mo_oneFact fu L N 154 = some (y_bd N b) := by
  have l4 : L 154 = (13, 0) := I.lay 154 (by decide)
  have l59 : L 159 = (101, 315) := I.lay 159 (by decide)
  have p12 : N 154 12 = 159 := (hN.ptr I) (154, 12, 159) (by decide +kernel)
  have g2 : (0 : Int) ≤ 2 ∧ (2 : Int) < ((101, 315) : Int × Int).2 := by decide
  unfold Mo_oneFact
  rw [l4, if_pos rfl, p12, l59, if_pos rfl, if_pos g2, if_pos h, rm_bad I hN, bd1_some]
/-- the class reads a word -/
theorem Gr_readWord_n (hf : 700 ≤ fu) (I : y_inv L M0 top) (hr : y_rc M0 M b) {s : Nat} (hs : s < zstr.length) (c : ¬ y_W M0 s b) : Gr_readWord fu L M 9 s = some (M, 0) := by
  have l9 : L 9 = (5, 0) := I.lay 9 (by decide)
  have l2 : L 2 = (8, 0) := I.lay 2 (by decide)
  have p0 : M 9 0 = 2 := (hr.ptr I) (9, 0, 2) (by decide +kernel)
  unfold Gr_readWord
  rw [l9, if_pos rfl, p0, l2, if_pos rfl, rc_word (by omega) I hr hs, if_neg c, bd1_some, if_pos rfl]
theorem Gr_readWord_y (hf : 700 ≤ fu) (I : y_inv L M0 top) (hr : y_rc M0 M b) {s : Nat} (hs : s < zstr.length) (c : y_W M0 s b) (hl : 0 ≤ M 9 12 ∧ M 9 12 ≤ 2 * b) : ∃ M', Gr_readWord fu L M 9 s = some (M', 1) ∧ y_tq M M' ((if 0 < M 9 12 then [32] else []) ++ (zstr.getD s []).map (fun (c : Nat) => (c : Int))) ∧ y_tf M M' ∧ y_rc M0 M' (y_nx M0 b) ∧ (M 9 12 + 1 ≤ M' 9 12 ∧ M' 9 12 ≤ 2 * y_nx M0 b) ∧ b < y_nx M0 b := by
  have l9 : L 9 = (5, 0) := I.lay 9 (by decide)
  have l2 : L 2 = (8, 0) := I.lay 2 (by decide)
  have p0 : M 9 0 = 2 := (hr.ptr I) (9, 0, 2) (by decide +kernel)
  obtain ⟨w1, w2⟩ := y_pt_w c
  obtain ⟨M', t1, t2, t3, t4, t5, t6⟩ := Gr_take_y (fu := fu) hf I hr (by omega) (fun z => by omega) hl
  rw [w2] at t2
  refine ⟨M', ?_, t2, t3, t4, t5, t6⟩
  unfold Gr_readWord
  rw [l9, if_pos rfl, p0, l2, if_pos rfl, rc_word (by omega) I hr hs, if_pos c, bd1_some, if_neg (by decide), t1, bd1_some]
theorem Gr_readLife_n (hf : 700 ≤ fu) (I : y_inv L M0 top) (hr : y_rc M0 M b) (c : y_lf M0 b = -1) : Gr_readLife fu L M 9 = some (M, 0) := by
  have l9 : L 9 = (5, 0) := I.lay 9 (by decide)
  have l2 : L 2 = (8, 0) := I.lay 2 (by decide)
  have p0 : M 9 0 = 2 := (hr.ptr I) (9, 0, 2) (by decide +kernel)
  unfold Gr_readLife
  rw [l9, if_pos rfl, p0, l2, if_pos rfl, rc_life (by omega) I hr, bd1_some, if_pos c]
theorem Gr_readLife_y (hf : 700 ≤ fu) (I : y_inv L M0 top) (hr : y_rc M0 M b) (c : y_lf M0 b ≠ -1) (hl : 0 ≤ M 9 12 ∧ M 9 12 ≤ 2 * b) : ∃ M', Gr_readLife fu L M 9 = some (M', 1) ∧ y_tq M M' ((if 0 < M 9 12 then [32] else []) ++ [97 + M0 163 (y_lf M0 b)]) ∧ y_tf M M' ∧ y_rc M0 M' (y_nx M0 b) ∧ (M 9 12 + 1 ≤ M' 9 12 ∧ M' 9 12 ≤ 2 * y_nx M0 b) ∧ b < y_nx M0 b := by
  have l9 : L 9 = (5, 0) := I.lay 9 (by decide)
  have l2 : L 2 = (8, 0) := I.lay 2 (by decide)
  have p0 : M 9 0 = 2 := (hr.ptr I) (9, 0, 2) (by decide +kernel)
  obtain ⟨w1, w2⟩ := y_pt_l I c
  obtain ⟨M', t1, t2, t3, t4, t5, t6⟩ := Gr_take_y (fu := fu) hf I hr (by omega) (fun z => by omega) hl
  rw [w2] at t2
  refine ⟨M', ?_, t2, t3, t4, t5, t6⟩
  unfold Gr_readLife
  rw [l9, if_pos rfl, p0, l2, if_pos rfl, rc_life (by omega) I hr, bd1_some, if_neg c, t1, bd1_some]
theorem Gr_readNumber_n (hf : 700 ≤ fu) (I : y_inv L M0 top) (hr : y_rc M0 M b) (c : ¬ y_N M0 99 b) (k l : Int) : Gr_readNumber fu L M 9 k l = some (M, 0) := by
  have l9 : L 9 = (5, 0) := I.lay 9 (by decide)
  have l2 : L 2 = (8, 0) := I.lay 2 (by decide)
  have p0 : M 9 0 = 2 := (hr.ptr I) (9, 0, 2) (by decide +kernel)
  unfold Gr_readNumber
  rw [l9, if_pos rfl, p0, l2, if_pos rfl, (rc_num I hr (by decide) (by decide)).1, if_neg (fun z => c z.1), bd1_some, if_pos rfl]
theorem Gr_readNumber_y (hf : 700 ≤ fu) (I : y_inv L M0 top) {A : zM} {t : List Int} (hs : y_sa M A t) (hr : y_rc M0 A b) (c : y_N M0 99 b) (hl : 1 ≤ A 9 12 ∧ A 9 12 ≤ 2 * b) (h10 : 0 ≤ M 9 10 ∧ M 9 10 < 31) (k l : Int) : ∃ M', Gr_readNumber fu L A 9 k l = some (M', 1) ∧ y_sbb M M' k (y_V M0 b) l (t ++ ([32] ++ y_num (y_V M0 b))) ∧ y_rc M0 M' (y_nx M0 b) ∧ M' 9 12 ≤ 2 * y_nx M0 b ∧ b < y_nx M0 b := by
  have l9 : L 9 = (5, 0) := I.lay 9 (by decide)
  have l2 : L 2 = (8, 0) := I.lay 2 (by decide)
  have p0 : A 9 0 = 2 := (hr.ptr I) (9, 0, 2) (by decide +kernel)
  have hn := of_decide_eq_true c
  have vb := tkV_b hn.1 hn.2.1
  have e7 := (rc_num (fu := fu) I hr (lo := 0) (m := 99) (by decide) (by decide)).2 c
  obtain ⟨w1, w2⟩ := y_pt_n c
  have a10 : A 9 10 = M 9 10 := hs.1.2
  obtain ⟨B, n1, n2⟩ := Gr_noteStep_y (fu := fu) I.lay (hr.ptr I) (show 0 ≤ A 9 10 ∧ A 9 10 < 31 by omega) k (y_V M0 b) l
  have hB := n2.rc hr
  have b12 : B 9 12 = A 9 12 := n2.2.2 _ _ (by omega) (by omega)
  obtain ⟨M', t1, t2, t3, t4, t5, t6⟩ := Gr_take_y (fu := fu) hf I hB (by omega) (fun _ => c) (by omega)
  rw [if_pos (by omega), w2] at t2
  refine ⟨M', ?_, (hs.note n2).take t3 t2, t4, t5.2, t6⟩
  unfold Gr_readNumber
  rw [l9, if_pos rfl, p0, l2, if_pos rfl, (rc_num I hr (by decide) (by decide)).1, if_pos ⟨c, vb.1⟩, bd1_some, if_neg (by decide), e7, n1, bd1_some, t1, bd1_some]
end

/-! ===== pure: part 9zq: a round of the law; all rounds ===== -/
section
variable {fu : Nat} {L : zL} {M : zM} {top : Int}
theorem y_rd_ite {A B : (Int → zL → zM → Int → Int → Int → Int → Option Int) → Option Int} {c : Prop} [Decidable c] {i : Int} (h1 : y_rd A top i) (h2 : y_rd B top i) : y_rd (fun k => if c then A k else B k) top i := by
  by_cases h : c
  · obtain ⟨a, b, d, e, f⟩ := h1
    exact ⟨a, b, d, fun k => (if_pos h).trans (e k), f⟩
  · obtain ⟨a, b, d, e, f⟩ := h2
    exact ⟨a, b, d, fun k => (if_neg h).trans (e k), f⟩
theorem y_rd_p {A B : (Int → zL → zM → Int → Int → Int → Int → Option Int) → Option Int} {c : Prop} [Decidable c] {i : Int} (h : c) (h1 : y_rd A top i) : y_rd (fun k => if c then A k else B k) top i := by
  obtain ⟨a, b, d, e, f⟩ := h1
  exact ⟨a, b, d, fun k => (if_pos h).trans (e k), f⟩
theorem y_rd_n {A B : (Int → zL → zM → Int → Int → Int → Int → Option Int) → Option Int} {c : Prop} [Decidable c] {i : Int} (h : ¬ c) (h1 : y_rd B top i) : y_rd (fun k => if c then A k else B k) top i := by
  obtain ⟨a, b, d, e, f⟩ := h1
  exact ⟨a, b, d, fun k => (if_neg h).trans (e k), f⟩
theorem rd_all (hf : 42000 ≤ fu) (I : y_inv L M top) (ht : top ≤ 900000) {X : Int → Int} {len i : Int} (hi : 0 ≤ i ∧ i + 6 ≤ len ∧ len ≤ 3072) : y_rd (fun k => Lw_s fu X len k top L M 1 154 171 i) top i := by
  have e6 : w32 (i + 6) = i + 6 := w32_id (by omega)
  have el : w32 (len - 6) = len - 6 := w32_id (by omega)
  unfold Lw_s
  refine y_rd_n (by rw [el]; omega) (y_rd_p (by omega) ?_)
  refine y_rd_ite (rd_feed hf I hi) ?_
  refine y_rd_ite (rd_end hf I hi) ?_
  refine y_rd_ite (rd_fault hf I hi) ?_
  refine y_rd_ite (rd_family hf I hi) ?_
  refine y_rd_ite (rd_gift hf I ht hi) ?_
  refine y_rd_ite (rd_drop hf I hi) ?_
  refine y_rd_ite (rd_pass hf I hi) ?_
  refine y_rd_ite (rd_birth hf I hi) ?_
  refine y_rd_ite (rd_death hf I hi) ?_
  refine y_rd_ite (rd_period hf I hi) ?_
  refine y_rd_ite (rd_limit hf I hi) ?_
  refine y_rd_ite (rd_rule hf I hi) ?_
  refine y_rd_ite (rd_person (by omega) I (by omega) hi) ?_
  refine y_rd_ite (rd_told hf I hi) ?_
  refine y_rd_ite (rd_written hf I hi) ?_
  refine y_rd_ite (rd_member hf I hi) ?_
  refine y_rd_ite (rd_vests hf I hi) ?_
  refine y_rd_ite (rd_closes hf I hi) ?_
  refine y_rd_ite (rd_state hf I hi) ?_
  refine y_rd_ite (rd_count hf I hi) ?_
  refine y_rd_ite (rd_share hf I hi) ?_
  refine y_rd_ite (rd_story hf I hi) ?_
  refine y_rd_ite (rd_storied hf I hi) ?_
  refine y_rd_ite (rd_storyState hf I hi) ?_
  refine y_rd_ite (rd_storyVests hf I hi) ?_
  refine y_rd_ite (rd_good hf I hi) ?_
  refine y_rd_ite (rd_behind hf I hi) ?_
  refine y_rd_ite (rd_soonest hf I hi) ?_
  refine y_rd_ite (rd_carriers hf I hi) ?_
  refine y_rd_ite (rd_ways hf I hi) ?_
  refine y_rd_ite (rd_lowered hf I hi) ?_
  refine y_rd_ite (rd_witness hf I hi) ?_
  refine y_rd_ite (rd_course hf I hi) ?_
  refine y_rd_ite (rd_lates hf I hi) ?_
  refine y_rd_ite (rd_worst hf I hi) ?_
  refine y_rd_ite (rd_firstBad hf I hi) ?_
  refine y_rd_ite (rd_undo hf I hi) ?_
  refine y_rd_ite (rd_image hf I hi) ?_
  refine y_rd_ite (rd_back hf I hi) ?_
  refine y_rd_ite (rd_status hf I hi) ?_
  refine y_rd_ite (rd_most hf I hi) ?_
  refine y_rd_ite (rd_size hf I hi) ?_
  exact ⟨top, L, M, fun k => by
    show k top L M 1 154 171 (w32 (i + 6)) = _
    rw [e6], I, by omega⟩
theorem y_law (hf : 42000 ≤ fu) {X : Int → Int} {len : Int} (hlen : 0 ≤ len ∧ len ≤ 3072) : ∀ (n : Nat) (m : Nat) (top : Int) (L : zL) (M : zM) (i : Int), len - i < 6 * (n : Int) + 6 → n < m → 0 ≤ i → i ≤ len + 6 → top + 7 * (n : Int) ≤ 900000 → y_inv L M top → Lw_l fu X len m top L M 1 154 171 i = some 1 := by
  have el : w32 (len - 6) = len - 6 := w32_id (by omega)
  intro n
  induction n with
  | zero =>
    intro m top L M i h1 h2 h3 h4 h5 I
    obtain ⟨m, rfl⟩ : ∃ m', m = m' + 1 := ⟨m - 1, by omega⟩
    show Lw_s _ _ _ _ _ _ _ _ _ _ _ = _
    unfold Lw_s
    rw [el, if_pos (by omega)]
  | succ n ih =>
    intro m top L M i h1 h2 h3 h4 h5 I
    obtain ⟨m, rfl⟩ : ∃ m', m = m' + 1 := ⟨m - 1, by omega⟩
    by_cases c : i + 6 ≤ len
    · obtain ⟨top', L', M', e, I', ht⟩ := rd_all (fu := fu) (X := X) (len := len) (i := i) hf I (by omega) ⟨h3, c, hlen.2⟩
      have e' : Lw_l fu X len (m + 1) top L M 1 154 171 i = Lw_l fu X len m top' L' M' 1 154 171 (i + 6) := e (Lw_l fu X len m)
      rw [e']
      exact ih m top' L' M' (i + 6) (by omega) (by omega) (by omega) (by omega) (by omega) I'
    · show Lw_s _ _ _ _ _ _ _ _ _ _ _ = _
      unfold Lw_s
      rw [el, if_pos (by omega)]
end

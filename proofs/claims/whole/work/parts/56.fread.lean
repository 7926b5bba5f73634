/-! ===== pure: part 56 ===== -/
/-! ===== pure: both readers of a family ===== -/
theorem tkB0 {f : Int → Int} {n : Int} (h : 0 ≤ n) : 0 ≤ tkB f n 0 ∧ tkB f n 0 ≤ n := ⟨tkB_ge, tkB_le h⟩
theorem Fr_read_ok {fu : Nat} (hf : 400 ≤ fu) {L : zL} {M : zM} (hL : Lay L) (hP : Ptr M) (hT : TapC M) :
    ∃ M', Fr_read fu L M 5 = some (M', (famL (M 3) (M 2 2) 9 0 (M 6) (M 7) (M 8) (tkB (M 3) (M 2 2) 0)).1) ∧ FOff M M' ∧ M' 5 4 = (famL (M 3) (M 2 2) 9 0 (M 6) (M 7) (M 8) (tkB (M 3) (M 2 2) 0)).2.1 ∧ M' 6 = (famL (M 3) (M 2 2) 9 0 (M 6) (M 7) (M 8) (tkB (M 3) (M 2 2) 0)).2.2.1 ∧ M' 7 = (famL (M 3) (M 2 2) 9 0 (M 6) (M 7) (M 8) (tkB (M 3) (M 2 2) 0)).2.2.2.1 ∧ M' 8 = (famL (M 3) (M 2 2) 9 0 (M 6) (M 7) (M 8) (tkB (M 3) (M 2 2) 0)).2.2.2.2 := by
  have l5 : L 5 = (3, 0) := hL 5 (by decide)
  have l2 : L 2 = (8, 0) := hL 2 (by decide)
  have o0 : FOff M (mu M 5 4 0) := fun a i _ h _ _ _ => mx_ne h
  have P0 := o0.ptr hP
  have T0 := o0.tap hT
  have q0 : mu M 5 4 0 5 0 = 2 := P0 (5, 0, 2) (by decide +kernel)
  obtain ⟨A, a1, a2, a3⟩ := Tp_restart_ok hf hL P0 T0
  rw [o0.f, o0.n] at a3
  have o1 := o0.trans a2.fo
  have m0 : A 5 4 = 0 := (a2.five 4).trans (mx_same _ _ _ _)
  have r : ∀ a : Int, a ≠ 2 → a ≠ 5 → A a = M a := fun a h h2 => funext fun i => (a2 a i (Or.inl h)).trans (mx_ne (Or.inl h2))
  obtain ⟨M', g1, g2, g3, g4, g5, g6⟩ := Fr_read_l hf hL 9 fu A _ (o1.ptr hP) (o1.tap hT) a3 (by omega) (by omega) (by omega) (by omega) (fun i h0 h1 => absurd h1 (by omega))
  rw [m0, o1.f, o1.n, r 6 (by decide) (by decide), r 7 (by decide) (by decide), r 8 (by decide) (by decide)] at g1 g3 g4 g5 g6
  refine ⟨M', ?_, o1.trans g2, g3, g4, g5, g6⟩
  unfold Fr_read
  rw [l5, if_pos rfl, lt1_def, q0, l2, if_pos rfl, a1, bd1_some, g1]
theorem Mo_readsFamily_ok {fu : Nat} (hf : 400 ≤ fu) {L : zL} {N : zM} (hL : Lay L) (hP : Ptr N) (hT : TapM N) :
    ∃ N', Mo_readsFamily fu L N 154 = some (N', (famL (N 155) (N 154 2) 9 0 (fun i => N 156 i + 97) (N 157) (N 158) (tkB (N 155) (N 154 2) 0)).1) ∧ GOff N N' ∧ N' 154 11 = (famL (N 155) (N 154 2) 9 0 (fun i => N 156 i + 97) (N 157) (N 158) (tkB (N 155) (N 154 2) 0)).2.1 ∧ (fun i => N' 156 i + 97) = (famL (N 155) (N 154 2) 9 0 (fun i => N 156 i + 97) (N 157) (N 158) (tkB (N 155) (N 154 2) 0)).2.2.1 ∧ N' 157 = (famL (N 155) (N 154 2) 9 0 (fun i => N 156 i + 97) (N 157) (N 158) (tkB (N 155) (N 154 2) 0)).2.2.2.1 ∧ N' 158 = (famL (N 155) (N 154 2) 9 0 (fun i => N 156 i + 97) (N 157) (N 158) (tkB (N 155) (N 154 2) 0)).2.2.2.2 := by
  have l4 : L 154 = (13, 0) := hL 154 (by decide)
  obtain ⟨A, a1, a2, a3, a4⟩ := Mo_begins_ok hf hL hP hT
  have o1 : GOff N (mu A 154 11 0) := fun a i q1 q2 q3 q4 => by rw [mx_ne (by omega)]; exact a2.go a i q1 q2 q3 q4
  have e11 : mu A 154 11 0 154 11 = 0 := mx_same _ _ _ _
  have e5 : mu A 154 11 0 154 5 = -1 := by rw [mx_ne (by omega), a4]
  have tk : MTok (mu A 154 11 0) (tkB (N 155) (N 154 2) 0) := by
    have e : ∀ j, j ≠ 11 → mu A 154 11 0 154 j = A 154 j := fun j hj => mx_ne (Or.inr hj)
    have ef : mu A 154 11 0 155 = A 155 := funext fun j => mx_ne (Or.inl (by decide))
    unfold MTok at a3 ⊢
    rw [e 2 (by decide), e 4 (by decide), e 6 (by decide), e 3 (by decide), e 7 (by decide), ef]
    exact a3
  have r : ∀ a : Int, a ≠ 154 → mu A 154 11 0 a = N a := fun a h => funext fun i => (mx_ne (Or.inl h)).trans (a2 a i (Or.inl h))
  obtain ⟨N', g1, g2, g3, g4, g5, g6, g7⟩ := Mo_fam_l hf hL 9 fu (mu A 154 11 0) _ (o1.ptr hP) (o1.tap hT) tk e5 (by omega) (by omega) (by omega) (by omega) (fun i h0 h1 => absurd h1 (by omega)) (fun i h0 h1 => absurd h1 (by omega))
  rw [e11, o1.f, o1.n, r 156 (by decide), r 157 (by decide), r 158 (by decide)] at g1 g4 g5 g6 g7
  refine ⟨N', ?_, o1.trans g2, g4, g5, g6, g7⟩
  unfold Mo_readsFamily
  rw [l4, if_pos rfl, a1, bd1_some, lt1_def, g1]

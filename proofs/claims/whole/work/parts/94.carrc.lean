/-! ===== pure: part 94: calls carriers, witness, lates, worst, firstBad ===== -/
section
variable {fu : Nat} {L : zL} {M : zM} {top : Int} {g ga st pt tl wh li e : Int}
/-- the model stands ready to test a gift as a whole -/
theorem y_gd.rdy (D : y_gd L M g ga st pt tl wh li e) (I : y_inv L M top) {N : zM} (o : y_off M N) : ∃ T, Mo_asksAll fu L N 154 g = some T ∧ y_off M T ∧ y_mt L T g wh li (M 162 74) (M 162 75) (M 154 20) 99 (M 162) ∧ y_ms T (fun i => M 162 (77 + 315 * g + (5 + i))) (M (M ga 5)) (M (M ga 6)) (M (M ga 7)) (M (M ga 8)) (M 154 20) e st (82 + 315 * g) 0 e 0 st := by
  obtain ⟨T, t1, t2, t3⟩ := D.asks (fu := fu) I o
  have oT : y_off M T := o.trans fun a i c => t2 a i (by omega)
  exact ⟨T, t1, oT, D.mt I (N := T) (fun a i _ c => oT a i c) (ln := 99) ((oT _ _ (by omega)).trans I.2.2.2.2.2.2.2.2.2) (by omega), t3⟩
theorem c_carriers (hf : 600 ≤ fu) (I : y_inv L M top) (g : Int) : y_same L M (fun M => Lx_carriers fu L M 1 g) (fun M => Mo_carriers fu L M 154 g) := by
  have l1 : L 1 = (12, 0) := I.lay 1 (by decide)
  have l4 : L 154 = (13, 0) := I.lay 154 (by decide)
  have l42 : L 142 = (9, 0) := I.lay 142 (by decide)
  by_cases h : M 154 19 = 1 ∧ 0 ≤ g ∧ g < M 162 76
  · obtain ⟨ga, st, pt, tl, wh, li, e, D⟩ := y_gift2 I h
    obtain ⟨N1, a1, a2, a3⟩ := Lx_tryGift_y (fu := fu) (by omega) I D (y_off.refl M)
    have te := D.te (m := st) (ln := 99) I ⟨D.2.2.2.1.2.2.2.1, Int.le_refl _⟩ (by omega)
    obtain ⟨N2, r, b1, b2, b3⟩ := Tr_fewestLives_ok (fu := fu) (by omega) I.lay (a2.ptr I.ptr) te a3
    have o2 := (a2.trans b3.off).trans (y_off0 N2)
    obtain ⟨T, t1, t2, t3, t4⟩ := D.rdy (fu := fu) I o2
    have hop := y_op01 (y_hv wh li (M 154 20) (M 162) (M (M ga 5)) (M (M ga 6)) (M (M ga 7)) (M (M ga 8)) 99 st)
    obtain ⟨U, r', u1, u2, u3⟩ := Mo_carriers_l (fu := fu) (by omega) t3 t4 hop.1 hop.2
    have er := y_few_u b2 u2
    refine y_same.mk (M1 := N2) (M2 := U) (r := r) (t2.trans u3.off) ?_ ?_
    · show Lx_carriers fu L M 1 g = _
      unfold Lx_carriers
      rw [l1, if_pos rfl, a1, bd2_some, if_neg (by decide), y_9 I a2, l42, if_pos rfl, b1, bd2_some]
    · show Mo_carriers fu L N2 154 g = _
      unfold Mo_carriers
      rw [l4, if_pos rfl, lt1_def, y_isG I o2, if_pos h, bd1_some, if_neg (by decide), t1, bd1_some, u1, er]
  · refine y_same.mk (M1 := M) (M2 := mu M 154 0 0) (r := -1) (y_off0 M) ?_ ?_
    · show Lx_carriers fu L M 1 g = _
      unfold Lx_carriers
      rw [l1, if_pos rfl, Lx_tryGift_n I (y_off.refl M) h, bd2_some, if_pos rfl]
    · show Mo_carriers fu L M 154 g = _
      unfold Mo_carriers
      rw [l4, if_pos rfl, lt1_def, y_isG I (y_off0 M), if_neg h, bd1_some, if_pos rfl]
theorem c_witness (hf : 600 ≤ fu) (I : y_inv L M top) (g : Int) : y_same L M (fun M => Lx_witness fu L M 1 g) (fun M => Mo_witness fu L M 154 g) := by
  have l1 : L 1 = (12, 0) := I.lay 1 (by decide)
  have l4 : L 154 = (13, 0) := I.lay 154 (by decide)
  have l42 : L 142 = (9, 0) := I.lay 142 (by decide)
  by_cases h : M 154 19 = 1 ∧ 0 ≤ g ∧ g < M 162 76
  · obtain ⟨ga, st, pt, tl, wh, li, e, D⟩ := y_gift2 I h
    obtain ⟨N1, a1, a2, a3⟩ := Lx_tryGift_y (fu := fu) (by omega) I D (y_off.refl M)
    have te := D.te (m := st) (ln := 99) I ⟨D.2.2.2.1.2.2.2.1, Int.le_refl _⟩ (by omega)
    obtain ⟨N2, r, b1, b2, b3⟩ := Tr_firstLateCourse_ok (fu := fu) hf I.lay (a2.ptr I.ptr) te (y_per I) a3
    have o2 := (a2.trans b3.off).trans (y_off0 N2)
    obtain ⟨T, t1, t2, t3, t4⟩ := D.rdy (fu := fu) I o2
    obtain ⟨V, v1, v2⟩ := Mo_hasVested_ok (fu := fu) (by omega) t3 t4
    obtain ⟨U, r', u1, u2, u3⟩ := Mo_witness_l (fu := fu) (op := 1 - y_ind (y_hv wh li (M 154 20) (M 162) (M (M ga 5)) (M (M ga 6)) (M (M ga 7)) (M (M ga 8)) 99 st)) hf (t3.ob v2) (t4.ob v2)
    have er := y_fst_u b2 u2
    refine y_same.mk (M1 := N2) (M2 := U) (r := r) (t2.trans (v2.trans u3).off) ?_ ?_
    · show Lx_witness fu L M 1 g = _
      unfold Lx_witness
      rw [l1, if_pos rfl, a1, bd2_some, if_neg (by decide), y_9 I a2, l42, if_pos rfl, b1, bd2_some]
    · show Mo_witness fu L N2 154 g = _
      unfold Mo_witness
      rw [l4, if_pos rfl, lt1_def, y_isG I o2, if_pos h, bd1_some, if_neg (by decide), t1, bd1_some, v1, bd2_some, er]
      rcases y_ind_01 (y_hv wh li (M 154 20) (M 162) (M (M ga 5)) (M (M ga 6)) (M (M ga 7)) (M (M ga 8)) 99 st) with z | z
      · rw [z, show (1 : Int) - 0 = 1 by omega] at u1
        rw [z, if_pos rfl, u1]
      · rw [z, show (1 : Int) - 1 = 0 by omega] at u1
        rw [z, if_neg (by decide), u1]
  · refine y_same.mk (M1 := M) (M2 := mu M 154 0 0) (r := -1) (y_off0 M) ?_ ?_
    · show Lx_witness fu L M 1 g = _
      unfold Lx_witness
      rw [l1, if_pos rfl, Lx_tryGift_n I (y_off.refl M) h, bd2_some, if_pos rfl]
    · show Mo_witness fu L M 154 g = _
      unfold Mo_witness
      rw [l4, if_pos rfl, lt1_def, y_isG I (y_off0 M), if_neg h, bd1_some, if_pos rfl]
theorem c_lates (hf : 600 ≤ fu) (I : y_inv L M top) (g : Int) : y_same L M (fun M => Lx_lates fu L M 1 g) (fun M => Mo_lates fu L M 154 g) := by
  have l1 : L 1 = (12, 0) := I.lay 1 (by decide)
  have l4 : L 154 = (13, 0) := I.lay 154 (by decide)
  have l42 : L 142 = (9, 0) := I.lay 142 (by decide)
  by_cases h : M 154 19 = 1 ∧ 0 ≤ g ∧ g < M 162 76
  · obtain ⟨ga, st, pt, tl, wh, li, e, D⟩ := y_gift2 I h
    obtain ⟨N1, a1, a2, a3⟩ := Lx_tryGift_y (fu := fu) (by omega) I D (y_off.refl M)
    have te := D.te (m := st) (ln := 99) I ⟨D.2.2.2.1.2.2.2.1, Int.le_refl _⟩ (by omega)
    obtain ⟨N2, b1, b3⟩ := Tr_lateCourses_ok (fu := fu) hf I.lay (a2.ptr I.ptr) te (y_per I) a3
    have o2 := (a2.trans b3.off).trans (y_off0 N2)
    obtain ⟨T, t1, t2, t3, t4⟩ := D.rdy (fu := fu) I o2
    obtain ⟨V, v1, v2⟩ := Mo_hasVested_ok (fu := fu) (by omega) t3 t4
    obtain ⟨U, u1, u3⟩ := Mo_lates_l (fu := fu) (op := 1 - y_ind (y_hv wh li (M 154 20) (M 162) (M (M ga 5)) (M (M ga 6)) (M (M ga 7)) (M (M ga 8)) 99 st)) hf (t3.ob v2) (t4.ob v2)
    apply y_same.mk (M1 := N2) (M2 := U) (t2.trans (v2.trans u3).off)
    · show Lx_lates fu L M 1 g = _
      unfold Lx_lates
      rw [l1, if_pos rfl, a1, bd2_some, if_neg (by decide), y_9 I a2, l42, if_pos rfl, b1, bd2_some]
    · show Mo_lates fu L N2 154 g = _
      unfold Mo_lates
      rw [l4, if_pos rfl, lt1_def, y_isG I o2, if_pos h, bd1_some, if_neg (by decide), t1, bd1_some, v1, bd2_some]
      generalize y_cnt (fun c => y_isc (M 154 20) c ∧ y_late (M 154 20) (M 162) (M (M ga 5)) (M (M ga 6)) (M (M ga 7)) (M (M ga 8)) st 99 wh li (M 162 74) (M 162 75) (1 - y_ind (y_hv wh li (M 154 20) (M 162) (M (M ga 5)) (M (M ga 6)) (M (M ga 7)) (M (M ga 8)) 99 st)) c) = z at u1
      rcases y_ind_01 (y_hv wh li (M 154 20) (M 162) (M (M ga 5)) (M (M ga 6)) (M (M ga 7)) (M (M ga 8)) 99 st) with y | y
      · rw [y, show (1 : Int) - 0 = 1 by omega] at u1
        rw [y, if_pos rfl, u1]
      · rw [y, show (1 : Int) - 1 = 0 by omega] at u1
        rw [y, if_neg (by decide), u1]
  · refine y_same.mk (M1 := M) (M2 := mu M 154 0 0) (r := -1) (y_off0 M) ?_ ?_
    · show Lx_lates fu L M 1 g = _
      unfold Lx_lates
      rw [l1, if_pos rfl, Lx_tryGift_n I (y_off.refl M) h, bd2_some, if_pos rfl]
    · show Mo_lates fu L M 154 g = _
      unfold Mo_lates
      rw [l4, if_pos rfl, lt1_def, y_isG I (y_off0 M), if_neg h, bd1_some, if_pos rfl]
theorem c_worst (hf : 600 ≤ fu) (I : y_inv L M top) (g k : Int) : y_same L M (fun M => Lx_worst fu L M 1 g k) (fun M => Mo_worst fu L M 154 g k) := by
  have l1 : L 1 = (12, 0) := I.lay 1 (by decide)
  have l4 : L 154 = (13, 0) := I.lay 154 (by decide)
  have l42 : L 142 = (9, 0) := I.lay 142 (by decide)
  by_cases hk : 0 ≤ k ∧ k ≤ 2
  · by_cases h : M 154 19 = 1 ∧ 0 ≤ g ∧ g < M 162 76
    · obtain ⟨ga, st, pt, tl, wh, li, e, D⟩ := y_gift2 I h
      obtain ⟨N1, a1, a2, a3⟩ := Lx_tryGift_y (fu := fu) (by omega) I D (y_off.refl M)
      have te := D.te (m := st) (ln := 99) I ⟨D.2.2.2.1.2.2.2.1, Int.le_refl _⟩ (by omega)
      obtain ⟨N2, r, mo, b1, b2, b3⟩ := Tr_tellWorst_ok (fu := fu) (by omega) I.lay (a2.ptr I.ptr) te a3 hk
      have o2 := (a2.trans b3.off).trans (y_off0 N2)
      obtain ⟨T, t1, t2, t3, t4⟩ := D.rdy (fu := fu) I o2
      obtain ⟨V, v1, v2⟩ := Mo_hasVested_ok (fu := fu) (by omega) t3 t4
      obtain ⟨U, r', mo', u1, u2, u3⟩ := Mo_worst_l (fu := fu) (op := 1 - y_ind (y_hv wh li (M 154 20) (M 162) (M (M ga 5)) (M (M ga 6)) (M (M ga 7)) (M (M ga 8)) 99 st)) (by omega) (t3.ob v2) (t4.ob v2) hk
      obtain ⟨er, em⟩ := y_wrs_u b2 u2
      rw [← er, ← em] at u1
      refine y_same.mk (M1 := N2) (M2 := U) (r := if r = -1 then -1000000 else if k = 2 then (if mo < 1000000 then mo else -1) else if k = 0 then r / 8 else r % 8) (t2.trans (v2.trans u3).off) ?_ ?_
      · show Lx_worst fu L M 1 g k = _
        unfold Lx_worst
        rw [if_neg (by omega), if_neg (by omega), l1, if_pos rfl, a1, bd2_some, if_neg (by decide), y_9 I a2, l42, if_pos rfl, b1, bd2_some]
      · show Mo_worst fu L N2 154 g k = _
        unfold Mo_worst
        rw [l4, if_pos rfl, lt1_def, y_isG I o2, if_pos h, bd1_some, if_neg (by decide), Mo_in_ok, if_pos hk, bd1_some, if_neg (by decide), t1, bd1_some, v1, bd2_some]
        rcases y_ind_01 (y_hv wh li (M 154 20) (M 162) (M (M ga 5)) (M (M ga 6)) (M (M ga 7)) (M (M ga 8)) 99 st) with z | z
        · rw [z, show (1 : Int) - 0 = 1 by omega] at u1
          rw [z, if_pos rfl, u1]
        · rw [z, show (1 : Int) - 1 = 0 by omega] at u1
          rw [z, if_neg (by decide), u1]
    · refine y_same.mk (M1 := M) (M2 := mu M 154 0 0) (r := -1000000) (y_off0 M) ?_ ?_
      · show Lx_worst fu L M 1 g k = _
        unfold Lx_worst
        rw [if_neg (by omega), if_neg (by omega), l1, if_pos rfl, Lx_tryGift_n I (y_off.refl M) h, bd2_some, if_pos rfl]
      · show Mo_worst fu L M 154 g k = _
        unfold Mo_worst
        rw [l4, if_pos rfl, lt1_def, y_isG I (y_off0 M), if_neg h, bd1_some, if_pos rfl]
  · refine y_same.mk (M1 := M) (M2 := mu M 154 0 0) (r := -1000000) (y_off0 M) ?_ ?_
    · show Lx_worst fu L M 1 g k = _
      unfold Lx_worst
      by_cases k0 : k < 0
      · rw [if_pos k0]
      · rw [if_neg k0, if_pos (by omega)]
    · show Mo_worst fu L M 154 g k = _
      unfold Mo_worst
      rw [l4, if_pos rfl, lt1_def, y_isG I (y_off0 M), Mo_in_ok, if_neg hk]
      split
      · rw [bd1_some, if_neg (by decide), bd1_some, if_pos rfl]
      · rw [bd1_some, if_pos rfl]
/-- the gift at g passes, told by the memory alone -/
def y_pas (M : zM) (g : Int) : Prop := y_gg M g (M 24 g) (M (M 24 g) 3) (M 162 (77 + 315 * g + 0)) (M 162 (77 + 315 * g + 1))
theorem y_gd.pas (D : y_gd L M g ga st pt tl wh li e) : y_gg M g ga st wh li ↔ y_pas M g := by
  obtain ⟨_, ⟨e1, e2, _⟩, ⟨f1, f2, _⟩, _⟩ := D
  unfold y_pas
  rw [e1, f1, f2, e2.2.1.1]
theorem c_firstBad (hf : 600 ≤ fu) (I : y_inv L M top) : y_same L M (fun M => Lx_firstBad fu L M 1) (fun M => Mo_firstBad fu L M 154) := by
  have l1 : L 1 = (12, 0) := I.lay 1 (by decide)
  have l4 : L 154 = (13, 0) := I.lay 154 (by decide)
  have l19 : L 19 = (2, 0) := I.lay 19 (by decide)
  have l42 : L 142 = (9, 0) := I.lay 142 (by decide)
  have l62 : L 162 = (101, 2597) := I.lay 162 (by decide)
  have h76 := I.2.2.2.2.1.2.2.1.1
  have h6 := I.2.2.2.1
  have hval : ∀ x, 0 ≤ x → x < M 162 76 → M 154 19 = 1 ∧ 0 ≤ x ∧ x < M 162 76 := fun x x0 x1 => ⟨by omega, x0, x1⟩
  have A : ∀ (k cc : Nat) (T : zM) (x : Int), 0 ≤ x → x + k = M 162 76 → k < cc → y_off M T → (∀ j, 0 ≤ j → j < x → y_pas M j) →
      ∃ U r, Lx_firstBad_l2 fu L cc T 1 x = some (U, r) ∧ y_fst (fun j => ¬ y_pas M j) (M 162 76) r ∧ y_off M U := by
    intro k
    induction k with
    | zero =>
      intro cc T x x0 xN hc o hall
      obtain ⟨cc, rfl⟩ : ∃ c'', cc = c'' + 1 := ⟨cc - 1, by omega⟩
      refine ⟨T, -1, ?_, Or.inl ⟨rfl, fun j j0 j1 hn => hn (hall j j0 (by omega))⟩, o⟩
      show Lx_firstBad_s2 _ _ _ _ _ _ = _
      have p4 : T 1 4 = 19 := (o.ptr I.ptr) (1, 4, 19) (by decide +kernel)
      have h2 : T 19 2 = M 162 76 := (o _ _ (by omega)).trans I.2.2.2.2.1.2.1.2.2.1
      unfold Lx_firstBad_s2
      rw [l1, if_pos rfl, p4, l19, if_pos rfl, h2, if_neg (by omega)]
    | succ k ih =>
      intro cc T x x0 xN hc o hall
      obtain ⟨cc, rfl⟩ : ∃ c'', cc = c'' + 1 := ⟨cc - 1, by omega⟩
      have p4 : T 1 4 = 19 := (o.ptr I.ptr) (1, 4, 19) (by decide +kernel)
      have h2 : T 19 2 = M 162 76 := (o _ _ (by omega)).trans I.2.2.2.2.1.2.1.2.2.1
      obtain ⟨ga, st, pt, tl, wh, li, e, D⟩ := y_gift2 I (hval x x0 (by omega))
      obtain ⟨N1, N2, a1, a2, a3, a4, a5⟩ := cl_good (fu := fu) (by omega) I D o
      rw [y_ind_eq D.pas] at a4
      have ew : w32 (x + 1) = x + 1 := w32_id (by omega)
      show ∃ U r, Lx_firstBad_s2 _ _ _ _ _ _ = _ ∧ _
      unfold Lx_firstBad_s2
      rw [l1, if_pos rfl, p4, l19, if_pos rfl, h2, if_pos (by omega), a1, bd2_some, if_neg (by decide), a2, l42, if_pos rfl, a3, bd1_some, a4, bd2_some]
      rcases Classical.em (y_pas M x) with c | c
      · rw [y_ind_1 c, if_neg (by decide), lt1_def, ew]
        refine ih cc N2 (x + 1) (by omega) (by omega) (by omega) a5 fun j j0 j1 => ?_
        by_cases cj : j = x
        · subst cj; exact c
        · exact hall j j0 (by omega)
      · rw [y_ind_0 c, if_pos rfl]
        exact ⟨N2, x, rfl, Or.inr ⟨x0, by omega, c, fun j j0 j1 hn => hn (hall j j0 j1)⟩, a5⟩
  have B : ∀ (k cc : Nat) (T : zM) (x : Int), 0 ≤ x → x + k = M 162 76 → k < cc → y_off M T → (∀ j, 0 ≤ j → j < x → y_pas M j) →
      ∃ U r, Mo_firstBad_l7 fu L cc T 154 x = some (U, r) ∧ y_fst (fun j => ¬ y_pas M j) (M 162 76) r ∧ y_off M U := by
    intro k
    induction k with
    | zero =>
      intro cc T x x0 xN hc o hall
      obtain ⟨cc, rfl⟩ : ∃ c'', cc = c'' + 1 := ⟨cc - 1, by omega⟩
      refine ⟨T, -1, ?_, Or.inl ⟨rfl, fun j j0 j1 hn => hn (hall j j0 (by omega))⟩, o⟩
      show Mo_firstBad_s7 _ _ _ _ _ _ = _
      have p18 := y_18 I o
      have h2 : T 162 76 = M 162 76 := o _ _ (by omega)
      unfold Mo_firstBad_s7 Mo_gifts
      rw [l4, if_pos rfl, if_pos rfl, p18, l62, if_pos rfl, if_pos (show (0 : Int) ≤ 76 ∧ (76 : Int) < ((101, 2597) : Int × Int).2 by show (0 : Int) ≤ 76 ∧ (76 : Int) < 2597; omega), bd1_some, h2, if_neg (by omega)]
    | succ k ih =>
      intro cc T x x0 xN hc o hall
      obtain ⟨cc, rfl⟩ : ∃ c'', cc = c'' + 1 := ⟨cc - 1, by omega⟩
      have p18 := y_18 I o
      have h2 : T 162 76 = M 162 76 := o _ _ (by omega)
      obtain ⟨ga, st, pt, tl, wh, li, e, D⟩ := y_gift2 I (hval x x0 (by omega))
      obtain ⟨N2, a4, a5⟩ := mo_good (fu := fu) (by omega) I D o
      rw [y_ind_eq D.pas] at a4
      have ew : w32 (x + 1) = x + 1 := w32_id (by omega)
      show ∃ U r, Mo_firstBad_s7 _ _ _ _ _ _ = _ ∧ _
      unfold Mo_firstBad_s7 Mo_gifts
      rw [l4, if_pos rfl, if_pos rfl, p18, l62, if_pos rfl, if_pos (show (0 : Int) ≤ 76 ∧ (76 : Int) < ((101, 2597) : Int × Int).2 by show (0 : Int) ≤ 76 ∧ (76 : Int) < 2597; omega), bd1_some, h2, if_pos (by omega), a4, bd2_some]
      rcases Classical.em (y_pas M x) with c | c
      · rw [y_ind_1 c, if_neg (by decide), lt1_def, ew]
        refine ih cc N2 (x + 1) (by omega) (by omega) (by omega) a5 fun j j0 j1 => ?_
        by_cases cj : j = x
        · subst cj; exact c
        · exact hall j j0 (by omega)
      · rw [y_ind_0 c, if_pos rfl]
        exact ⟨N2, x, rfl, Or.inr ⟨x0, by omega, c, fun j j0 j1 hn => hn (hall j j0 j1)⟩, a5⟩
  obtain ⟨U, r, u1, u2, u3⟩ := A (M 162 76).toNat fu M 0 (by omega) (by omega) (by omega) (y_off.refl M) (fun j j0 j1 => absurd j1 (by omega))
  have o2 := u3.trans (y_off0 U)
  obtain ⟨V, r', v1, v2, v3⟩ := B (M 162 76).toNat fu (mu U 154 0 0) 0 (by omega) (by omega) (by omega) o2 (fun j j0 j1 => absurd j1 (by omega))
  have er := y_fst_u u2 v2
  refine y_same.mk (M1 := U) (M2 := V) (r := r) v3 u1 ?_
  show Mo_firstBad fu L U 154 = _
  unfold Mo_firstBad
  rw [l4, if_pos rfl, lt1_def, v1, er]
end

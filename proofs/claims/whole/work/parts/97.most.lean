/-! ===== pure: part 97: most ===== -/
section
variable {fu : Nat} {L : zL} {M : zM} {top : Int} {g ga st pt tl wh li e : Int}
/-- STATE of a gift, told by the memory -/
def y_stg (M : zM) (ga st wh li : Int) : Int := y_std (y_fy (M 162) (y_cv wh (y_py wh li (M 162) (M (M ga 5)) (M (M ga 6)) (M (M ga 7)) (M (M ga 8)) st) (M 162 1)) (y_py wh li (M 162) (M (M ga 5)) (M (M ga 6)) (M (M ga 7)) (M (M ga 8)) st)) (M 162 1) (M 162 0) (y_end (M 154 20) (M 162 74) (M 162)) (y_cmp (if wh = 0 then 1 else 0) (y_cv wh (y_py wh li (M 162) (M (M ga 5)) (M (M ga 6)) (M (M ga 7)) (M (M ga 8)) st) (M 162 1)) (y_nat wh li (M 162)))
def y_sgm (M : zM) (g : Int) : Int := y_stg M (M 24 g) (M (M 24 g) 3) (M 162 (77 + 315 * g + 0)) (M 162 (77 + 315 * g + 1))
theorem y_gd.sgm (D : y_gd L M g ga st pt tl wh li e) : y_stg M ga st wh li = y_sgm M g := by
  obtain ⟨_, ⟨e1, e2, _⟩, ⟨f1, f2, _⟩, _⟩ := D
  unfold y_sgm
  rw [e1, f1, f2, e2.2.1.1]
/-- the class looks at a gift: its STATE -/
theorem y_gd.stand (D : y_gd L M g ga st pt tl wh li e) (hf : 400 ≤ fu) (I : y_inv L M top) {N : zM} (o : y_off M N) : ∃ N1, Lx_waitFor fu L N 1 g = some (N1, 1) ∧ Wt_standing fu L N1 140 = some (y_sgm M g) ∧ y_off M N1 := by
  obtain ⟨g1, g2, g3, g4⟩ := D.at (fu := fu) I o
  have sk := D.sk
  have hs := D.sgm
  obtain ⟨_, ⟨e1, e2, e3, e4⟩, _, ⟨b1, b2, b3, b4⟩, _⟩ := D
  have q := e2.2.2.2.1
  have G : ∀ j, N ga j = M ga j := fun j => o ga j (by omega)
  have r5 := o.hi q.2.1
  have r6 := o.hi q.2.2.1
  have r7 := o.hi q.2.2.2.1
  have r8 := o.hi q.2.2.2.2.1
  have m62 : N 162 = M 162 := o.row fun i => by omega
  have I' := I.off o
  obtain ⟨N1, a1, a2, a3⟩ := Wt_look_ok (fu := fu) hf I.lay I'.ptr (o.wr y_wa20 I.wr) I.wv y_wa20 (o.gc e2) ((G 0).trans e3) ((G 1).trans e4) b1 b2 b4.1 (by rw [G 5, G 6, G 7, G 8, r5, r6, r7, r8]; exact sk) (y_per I)
  rw [G 5, G 6, G 7, G 8, r5, r6, r7, r8] at a3
  refine ⟨N1, Lx_waitFor_y I' g1 g2 (by rw [m62]; exact a1), ?_, o.trans a2⟩
  rw [Wt_standing_ok hf I.lay ((o.trans a2).ptr I.ptr) a3, ← hs]; rfl
theorem y_gd.mstand (D : y_gd L M g ga st pt tl wh li e) (hf : 400 ≤ fu) (I : y_inv L M top) {N : zM} (o : y_off M N) : ∃ T, Mo_stateOf fu L N 154 162 g = some (T, y_sgm M g) ∧ y_off M T := by
  have hs := D.sgm
  obtain ⟨d, ⟨e1, e2, e3, e4⟩, ⟨f1, f2, f3, f4⟩, ⟨b1, b2, b3, b4⟩, ws, seg, _⟩ := D
  have mg : y_mg L N g (fun i => M 162 (77 + 315 * g + i)) wh li (M 154 20) e (M (M ga 5)) (M (M ga 6)) (M (M ga 7)) (M (M ga 8)) st :=
    ⟨by omega, ⟨I.lay 154 (by decide), I.lay 162 (by decide), y_18 I o, (o _ _ (by omega)).trans I.2.2.2.2.2.2.2.2.2⟩, fun i i0 i1 => o _ _ (by omega), ⟨f1, f2, f4⟩, ⟨b1, b2, b3, b4⟩, ws, seg⟩
  obtain ⟨T, t1, t2⟩ := Mo_stateOf_ok (fu := fu) hf mg (I.mr.off o) (y_perO I o)
  refine ⟨T, ?_, o.trans t2⟩
  rw [t1, ← hs]; rfl
theorem Mo_gifts_y (I : y_inv L M top) {N : zM} (o : y_off M N) : Mo_gifts fu L N 154 = some (M 162 76) := by
  have l4 : L 154 = (13, 0) := I.lay 154 (by decide)
  have l62 : L 162 = (101, 2597) := I.lay 162 (by decide)
  unfold Mo_gifts
  rw [l4, if_pos rfl, y_18 I o, l62, if_pos rfl, if_pos (show (0 : Int) ≤ 76 ∧ (76 : Int) < ((101, 2597) : Int × Int).2 by show (0 : Int) ≤ 76 ∧ (76 : Int) < 2597; omega), o 162 76 (by omega)]
theorem Lx_goodGifts_y (hf : 600 ≤ fu) (I : y_inv L M top) (h1 : M 154 19 = 1) {N : zM} (o : y_off M N) : ∃ U, Lx_goodGifts fu L N 1 = some (U, y_fo (fun i s => s + y_ind (y_pas M i)) (M 162 76).toNat 0 0) ∧ y_off M U := by
  have l1 : L 1 = (12, 0) := I.lay 1 (by decide)
  have l19 : L 19 = (2, 0) := I.lay 19 (by decide)
  have l42 : L 142 = (9, 0) := I.lay 142 (by decide)
  have h76 := I.2.2.2.2.1.2.2.1.1
  unfold Lx_goodGifts
  refine y_lpm0 (F := fun n T s i => Lx_goodGifts_l4 fu L n T 1 s i) (fin := fun s => s) (N := M 162 76) (fun T => y_off M T) (fun i s => 0 ≤ s ∧ s ≤ i) (fun n T s i o i0 iN hI => ?_) (fun n T s i o iN hI => ?_) (M 162 76).toNat fu N 0 0 o (by omega) (by omega) (by omega) (by omega)
  · have p4 : T 1 4 = 19 := (o.ptr I.ptr) (1, 4, 19) (by decide +kernel)
    have h2 : T 19 2 = M 162 76 := (o _ _ (by omega)).trans I.2.2.2.2.1.2.1.2.2.1
    obtain ⟨ga, st, pt, tl, wh, li, e, D⟩ := y_gift2 I ⟨h1, i0, iN⟩
    obtain ⟨N1, N2, a1, a2, a3, a4, a5⟩ := cl_good (fu := fu) (by omega) I D o
    rw [y_ind_eq D.pas] at a4
    have ew : w32 (i + 1) = i + 1 := w32_id (by omega)
    have es : w32 (s + 1) = s + 1 := w32_id (by omega)
    show ∃ U, Lx_goodGifts_s4 _ _ _ _ _ _ _ = _ ∧ _
    unfold Lx_goodGifts_s4
    rw [l1, if_pos rfl, p4, l19, if_pos rfl, h2, if_pos (by omega), a1, bd2_some, if_neg (by decide), a2, l42, if_pos rfl, a3, bd1_some, a4, bd2_some]
    rcases Classical.em (y_pas M i) with c | c
    · rw [y_ind_1 c, if_neg (by decide), lt1_def, lt1_def, ew, es]
      exact ⟨N2, rfl, a5, by omega⟩
    · rw [y_ind_0 c, if_pos rfl, lt1_def, ew, show s + 0 = s by omega]
      exact ⟨N2, rfl, a5, by omega⟩
  · refine ⟨T, ?_, o⟩
    have p4 : T 1 4 = 19 := (o.ptr I.ptr) (1, 4, 19) (by decide +kernel)
    have h2 : T 19 2 = M 162 76 := (o _ _ (by omega)).trans I.2.2.2.2.1.2.1.2.2.1
    show Lx_goodGifts_s4 _ _ _ _ _ _ _ = _
    unfold Lx_goodGifts_s4
    rw [l1, if_pos rfl, p4, l19, if_pos rfl, h2, if_neg (by omega)]
theorem Mo_goodOnes_y (hf : 600 ≤ fu) (I : y_inv L M top) (h1 : M 154 19 = 1) {N : zM} (o : y_off M N) : ∃ U, Mo_goodOnes fu L N 154 = some (U, y_fo (fun i s => s + y_ind (y_pas M i)) (M 162 76).toNat 0 0) ∧ y_off M U := by
  have l4 : L 154 = (13, 0) := I.lay 154 (by decide)
  have h76 := I.2.2.2.2.1.2.2.1.1
  unfold Mo_goodOnes
  refine y_lpm0 (F := fun n T s i => Mo_goodOnes_l4 fu L n T 154 s i) (fin := fun s => s) (N := M 162 76) (fun T => y_off M T) (fun i s => 0 ≤ s ∧ s ≤ i) (fun n T s i o i0 iN hI => ?_) (fun n T s i o iN hI => ?_) (M 162 76).toNat fu N 0 0 o (by omega) (by omega) (by omega) (by omega)
  · obtain ⟨ga, st, pt, tl, wh, li, e, D⟩ := y_gift2 I ⟨h1, i0, iN⟩
    obtain ⟨N2, a4, a5⟩ := mo_good (fu := fu) (by omega) I D o
    rw [y_ind_eq D.pas] at a4
    have ew : w32 (i + 1) = i + 1 := w32_id (by omega)
    have es : w32 (s + 1) = s + 1 := w32_id (by omega)
    have ez : w32 (s + 0) = s := by rw [w32_id (by omega)]; omega
    show ∃ U, Mo_goodOnes_s4 _ _ _ _ _ _ _ = _ ∧ _
    unfold Mo_goodOnes_s4
    rw [l4, if_pos rfl, Mo_gifts_y I o, bd1_some, if_pos iN, a4, bd2_some]
    rcases Classical.em (y_pas M i) with c | c
    · rw [y_ind_1 c, if_neg (by decide), lt1_def, lt1_def, ew, es]
      exact ⟨N2, rfl, a5, by omega⟩
    · rw [y_ind_0 c, if_pos rfl, lt1_def, lt1_def, ew, ez, show s + 0 = s by omega]
      exact ⟨N2, rfl, a5, by omega⟩
  · refine ⟨T, ?_, o⟩
    show Mo_goodOnes_s4 _ _ _ _ _ _ _ = _
    unfold Mo_goodOnes_s4
    rw [l4, if_pos rfl, Mo_gifts_y I o, bd1_some, if_neg (by omega)]
theorem Lx_lateGifts_y (hf : 600 ≤ fu) (I : y_inv L M top) (h1 : M 154 19 = 1) {N : zM} (o : y_off M N) : ∃ U, Lx_lateGifts fu L N 1 = some (U, y_fo (fun i s => if y_sgm M i = 2 then s + 1 else s) (M 162 76).toNat 0 0) ∧ y_off M U := by
  have l1 : L 1 = (12, 0) := I.lay 1 (by decide)
  have l19 : L 19 = (2, 0) := I.lay 19 (by decide)
  have l40 : L 140 = (10, 0) := I.lay 140 (by decide)
  have h76 := I.2.2.2.2.1.2.2.1.1
  unfold Lx_lateGifts
  refine y_lpm0 (F := fun n T s i => Lx_lateGifts_l4 fu L n T 1 s i) (fin := fun s => s) (N := M 162 76) (fun T => y_off M T) (fun i s => 0 ≤ s ∧ s ≤ i) (fun n T s i o i0 iN hI => ?_) (fun n T s i o iN hI => ?_) (M 162 76).toNat fu N 0 0 o (by omega) (by omega) (by omega) (by omega)
  · have p4 : T 1 4 = 19 := (o.ptr I.ptr) (1, 4, 19) (by decide +kernel)
    have h2 : T 19 2 = M 162 76 := (o _ _ (by omega)).trans I.2.2.2.2.1.2.1.2.2.1
    obtain ⟨ga, st, pt, tl, wh, li, e, D⟩ := y_gift2 I ⟨h1, i0, iN⟩
    obtain ⟨N1, a1, a2, a3⟩ := D.stand (fu := fu) (by omega) I o
    have ew : w32 (i + 1) = i + 1 := w32_id (by omega)
    have es : w32 (s + 1) = s + 1 := w32_id (by omega)
    show ∃ U, Lx_lateGifts_s4 _ _ _ _ _ _ _ = _ ∧ _
    unfold Lx_lateGifts_s4
    rw [l1, if_pos rfl, p4, l19, if_pos rfl, h2, if_pos (by omega), a1, bd2_some, if_neg (by decide), y_8 I a3, l40, if_pos rfl, a2, bd1_some]
    by_cases c : y_sgm M i = 2
    · rw [if_pos c, if_pos c, lt1_def, lt1_def, ew, es]
      exact ⟨N1, rfl, a3, by omega⟩
    · rw [if_neg c, if_neg c, lt1_def, ew]
      exact ⟨N1, rfl, a3, by omega⟩
  · refine ⟨T, ?_, o⟩
    have p4 : T 1 4 = 19 := (o.ptr I.ptr) (1, 4, 19) (by decide +kernel)
    have h2 : T 19 2 = M 162 76 := (o _ _ (by omega)).trans I.2.2.2.2.1.2.1.2.2.1
    show Lx_lateGifts_s4 _ _ _ _ _ _ _ = _
    unfold Lx_lateGifts_s4
    rw [l1, if_pos rfl, p4, l19, if_pos rfl, h2, if_neg (by omega)]
theorem Mo_badStates_y (hf : 600 ≤ fu) (I : y_inv L M top) (h1 : M 154 19 = 1) {N : zM} (o : y_off M N) : ∃ U, Mo_badStates fu L N 154 = some (U, y_fo (fun i s => if y_sgm M i = 2 then s + 1 else s) (M 162 76).toNat 0 0) ∧ y_off M U := by
  have l4 : L 154 = (13, 0) := I.lay 154 (by decide)
  have h76 := I.2.2.2.2.1.2.2.1.1
  unfold Mo_badStates
  refine y_lpm0 (F := fun n T s i => Mo_badStates_l4 fu L n T 154 s i) (fin := fun s => s) (N := M 162 76) (fun T => y_off M T) (fun i s => 0 ≤ s ∧ s ≤ i) (fun n T s i o i0 iN hI => ?_) (fun n T s i o iN hI => ?_) (M 162 76).toNat fu N 0 0 o (by omega) (by omega) (by omega) (by omega)
  · obtain ⟨ga, st, pt, tl, wh, li, e, D⟩ := y_gift2 I ⟨h1, i0, iN⟩
    obtain ⟨N2, a4, a5⟩ := D.mstand (fu := fu) (by omega) I o
    have ew : w32 (i + 1) = i + 1 := w32_id (by omega)
    have es : w32 (s + 1) = s + 1 := w32_id (by omega)
    have ez : w32 (s + 0) = s := by rw [w32_id (by omega)]; omega
    show ∃ U, Mo_badStates_s4 _ _ _ _ _ _ _ = _ ∧ _
    unfold Mo_badStates_s4
    rw [l4, if_pos rfl, Mo_gifts_y I o, bd1_some, if_pos iN, y_18 I o, a4, bd2_some]
    by_cases c : y_sgm M i = 2
    · rw [if_pos c, if_pos c, lt1_def, lt1_def, ew, es]
      exact ⟨N2, rfl, a5, by omega⟩
    · rw [if_neg c, if_neg c, lt1_def, lt1_def, ew, ez]
      exact ⟨N2, rfl, a5, by omega⟩
  · refine ⟨T, ?_, o⟩
    show Mo_badStates_s4 _ _ _ _ _ _ _ = _
    unfold Mo_badStates_s4
    rw [l4, if_pos rfl, Mo_gifts_y I o, bd1_some, if_neg (by omega)]
/-- the gift with most Fs -/
def y_lng (f : Int → Int) (n : Int) : Int := y_fo (fun i s => if s = -1 ∨ f s < f i then i else s) n.toNat 0 (-1)
theorem y_fac (I : y_inv L M top) {g : Int} (h : M 154 19 = 1 ∧ 0 ≤ g ∧ g < M 162 76) : Af_giftAt fu L M 19 g = some (M 24 g) ∧ M 24 g ≠ 0 ∧ L (M 24 g) = (4, 0) ∧ M (M 24 g) 2 = M 162 (77 + 315 * g + 2) ∧ 0 ≤ M 162 (77 + 315 * g + 2) := by
  obtain ⟨ga, st, pt, tl, wh, li, e, D⟩ := y_gift2 I h
  obtain ⟨g1, g2, g3, g4⟩ := D.at (fu := fu) I (y_off.refl M)
  have e1 := D.2.1.1
  obtain ⟨st', pt', tl', gc, q2, q3, q4, q5, q6, q7, q8⟩ := I.2.2.2.2.1.2.2.2.2.2.2 g h.2.1 h.2.2
  rw [e1]
  refine ⟨g1, g2, g3, ?_, q8.2.2.2.2.2.2.2⟩
  rw [← e1]; exact q2.2.2.1
theorem Af_longestGift_y (hf : 600 ≤ fu) (I : y_inv L M top) (h1 : M 154 19 = 1) : Af_longestGift fu L M 19 = some (y_lng (fun i => M 162 (77 + 315 * i + 2)) (M 162 76)) := by
  have l19 : L 19 = (2, 0) := I.lay 19 (by decide)
  have h76 := I.2.2.2.2.1.2.2.1.1
  have h2 : M 19 2 = M 162 76 := I.2.2.2.2.1.2.1.2.2.1
  unfold Af_longestGift y_lng
  refine y_lp0 (F := fun n s i => Af_longestGift_l6 fu L n M 19 s (if s = -1 then -1 else M 162 (77 + 315 * s + 2)) i) (fin := id) (N := M 162 76) (fun i s => s = -1 ∨ (0 ≤ s ∧ s < i)) (fun n s i i0 iN hI => ?_) (fun n s i iN hI => ?_) (M 162 76).toNat fu (-1) 0 (by omega) (by omega) (by omega) (Or.inl rfl)
  · obtain ⟨a1, a2, a3, a4, a5⟩ := y_fac (fu := fu) I ⟨h1, i0, iN⟩
    have ew : w32 (i + 1) = i + 1 := w32_id (by omega)
    refine ⟨?_, by split <;> omega⟩
    show Af_longestGift_s6 _ _ _ _ _ _ _ _ = _
    unfold Af_longestGift_s6
    rw [l19, if_pos rfl, h2, if_pos iN, a1, bd1_some, if_neg a2, a3, if_pos rfl, a4, lt1_def, lt1_def, lt1_def, ew]
    by_cases c : s = -1
    · rw [if_pos c, if_pos (by omega), if_pos (Or.inl c), if_neg (by omega)]
    · rw [if_neg c]
      by_cases c' : M 162 (77 + 315 * s + 2) < M 162 (77 + 315 * i + 2)
      · rw [if_pos c', if_pos (Or.inr c'), if_neg (by omega)]
      · rw [if_neg c', if_neg (show ¬ (s = -1 ∨ M 162 (77 + 315 * s + 2) < M 162 (77 + 315 * i + 2)) by omega), if_neg c]
  · show Af_longestGift_s6 _ _ _ _ _ _ _ _ = _
    unfold Af_longestGift_s6
    rw [l19, if_pos rfl, h2, if_neg (by omega)]; rfl
theorem Mo_longest_y (hf : 600 ≤ fu) (I : y_inv L M top) {N : zM} (o : y_off M N) : Mo_longest fu L N 154 = some (y_lng (fun i => M 162 (77 + 315 * i + 2)) (M 162 76)) := by
  have l4 : L 154 = (13, 0) := I.lay 154 (by decide)
  have l62 : L 162 = (101, 2597) := I.lay 162 (by decide)
  have h76 := I.2.2.2.2.1.2.2.1.1
  have p18 := y_18 I o
  unfold Mo_longest y_lng
  refine y_lp0 (F := fun n s i => Mo_longest_l4 fu L n N 154 s i) (fin := id) (N := M 162 76) (fun i s => s = -1 ∨ (0 ≤ s ∧ s < i)) (fun n s i i0 iN hI => ?_) (fun n s i iN hI => ?_) (M 162 76).toNat fu (-1) 0 (by omega) (by omega) (by omega) (Or.inl rfl)
  · have ew : w32 (i + 1) = i + 1 := w32_id (by omega)
    refine ⟨?_, by split <;> omega⟩
    show Mo_longest_s4 _ _ _ _ _ _ _ = _
    unfold Mo_longest_s4
    rw [l4, if_pos rfl, Mo_gifts_y I o, bd1_some, if_pos iN]
    by_cases c : s = -1
    · rw [if_pos c, if_pos (Or.inl c), lt1_def, ew]
    · have ew2 : w32 (77 + 315 * i + 2) = 77 + 315 * i + 2 := w32_id (by omega)
      have ew3 : w32 (77 + 315 * s + 2) = 77 + 315 * s + 2 := w32_id (by omega)
      have k1 : 0 ≤ 77 + 315 * i + 2 ∧ 77 + 315 * i + 2 < ((101, 2597) : Int × Int).2 := by show _ ∧ _ < (2597 : Int); omega
      have k2 : 0 ≤ 77 + 315 * s + 2 ∧ 77 + 315 * s + 2 < ((101, 2597) : Int × Int).2 := by show _ ∧ _ < (2597 : Int); omega
      rw [if_neg c, Mo_giftAt_ok (show 0 ≤ i ∧ i ≤ 8 by omega), bd1_some, p18, l62, if_pos rfl, ew2, if_pos k1, Mo_giftAt_ok (show 0 ≤ s ∧ s ≤ 8 by omega), bd1_some, ew3, if_pos k2, o 162 _ (by omega), o 162 _ (by omega), lt1_def, lt1_def, ew]
      by_cases c' : M 162 (77 + 315 * s + 2) < M 162 (77 + 315 * i + 2)
      · rw [if_pos c', if_pos (Or.inr c')]
      · rw [if_neg c', if_neg (show ¬ (s = -1 ∨ M 162 (77 + 315 * s + 2) < M 162 (77 + 315 * i + 2)) by omega)]
  · show Mo_longest_s4 _ _ _ _ _ _ _ = _
    unfold Mo_longest_s4
    rw [l4, if_pos rfl, Mo_gifts_y I o, bd1_some, if_neg (by omega)]; rfl
theorem c_most (hf : 600 ≤ fu) (I : y_inv L M top) (k : Int) : y_same L M (fun M => Lx_most fu L M 1 k) (fun M => Mo_most fu L M 154 k) := by
  have l1 : L 1 = (12, 0) := I.lay 1 (by decide)
  have l4 : L 154 = (13, 0) := I.lay 154 (by decide)
  have l19 : L 19 = (2, 0) := I.lay 19 (by decide)
  have l20 : L 20 = (11, 0) := I.lay 20 (by decide)
  have l62 : L 162 = (101, 2597) := I.lay 162 (by decide)
  have p4 : M 1 4 = 19 := I.ptr (1, 4, 19) (by decide +kernel)
  have p0 : M 19 0 = 20 := I.ptr (19, 0, 20) (by decide +kernel)
  have h6 := I.2.2.2.1
  have o1 := y_off0 M
  have I1 := I.off o1
  have m62 : mu M 154 0 0 162 = M 162 := o1.row fun i => by omega
  have m20 : mu M 154 0 0 154 20 = M 154 20 := o1 _ _ (by omega)
  have wv1 := I1.wv
  have p18 := y_18 I o1
  have e19 : mu M 154 0 0 154 19 = M 154 19 := o1 _ _ (by omega)
  by_cases h : M 154 19 = 0
  · refine y_same.mk (M1 := M) (M2 := mu M 154 0 0) (r := -1) o1 ?_ ?_
    · show Lx_most fu L M 1 k = _
      unfold Lx_most
      rw [l1, if_pos rfl, if_pos (by omega)]
    · show Mo_most fu L M 154 k = _
      unfold Mo_most
      rw [l4, if_pos rfl, lt1_def, e19, if_pos h]
  · have h1 : M 154 19 = 1 := by omega
    have hpp : 1 ≤ M 162 1 := by have := I.wv.1; have := h6.2.2.2.2.2 h1; omega
    by_cases k0 : k = 0
    · refine y_same.mk (M1 := M) (M2 := mu M 154 0 0) (r := y_full (M 162)) o1 ?_ ?_
      · show Lx_most fu L M 1 k = _
        unfold Lx_most
        rw [l1, if_pos rfl, if_neg (show ¬ M 1 11 = 0 by omega), p4, l19, p0, l20, if_pos k0, if_pos rfl, if_pos rfl, Wr_mostChildren (by omega) I.wr I.wv hpp, bd1_some]
      · show Mo_most fu L M 154 k = _
        unfold Mo_most
        rw [l4, if_pos rfl, lt1_def, e19, if_neg h, if_pos k0, Mr_fullest (by omega) l4 l62 p18 wv1 (by rw [m62]; exact hpp), bd1_some, m62]
    by_cases k1 : k = 1
    · refine y_same.mk (M1 := M) (M2 := mu M 154 0 0) (r := y_old (M 162)) o1 ?_ ?_
      · show Lx_most fu L M 1 k = _
        unfold Lx_most
        rw [l1, if_pos rfl, if_neg (show ¬ M 1 11 = 0 by omega), p4, l19, p0, l20, if_neg k0, if_pos k1, if_pos rfl, if_pos rfl, Wr_oldestLiving (by omega) I.wr I.wv, bd1_some]
      · show Mo_most fu L M 154 k = _
        unfold Mo_most
        rw [l4, if_pos rfl, lt1_def, e19, if_neg h, if_neg k0, if_pos k1, Mr_oldest (by omega) l4 l62 p18 wv1, bd1_some, m62]
    by_cases k2 : k = 2
    · refine y_same.mk (M1 := M) (M2 := mu M 154 0 0) (r := y_liv (M 162)) o1 ?_ ?_
      · show Lx_most fu L M 1 k = _
        unfold Lx_most
        rw [l1, if_pos rfl, if_neg (show ¬ M 1 11 = 0 by omega), p4, l19, p0, l20, if_neg k0, if_neg k1, if_pos k2, if_pos rfl, if_pos rfl, Wr_livingPersons (by omega) I.wr I.wv, bd1_some]
      · show Mo_most fu L M 154 k = _
        unfold Mo_most
        rw [l4, if_pos rfl, lt1_def, e19, if_neg h, if_neg k0, if_neg k1, if_pos k2, Mr_alive (by omega) l4 l62 p18 wv1, bd1_some, m62]
    by_cases k3 : k = 3
    · obtain ⟨U, u1, u2⟩ := Lx_goodGifts_y (fu := fu) hf I h1 (y_off.refl M)
      have oU := u2.trans (y_off0 U)
      obtain ⟨V, v1, v2⟩ := Mo_goodOnes_y (fu := fu) hf I h1 oU
      apply y_same.mk (M1 := U) (M2 := V) v2
      · show Lx_most fu L M 1 k = _
        unfold Lx_most
        rw [l1, if_pos rfl, if_neg (show ¬ M 1 11 = 0 by omega), p4, l19, p0, l20, if_neg k0, if_neg k1, if_neg k2, if_pos k3, u1, bd2_some]
      · show Mo_most fu L U 154 k = _
        unfold Mo_most
        rw [l4, if_pos rfl, lt1_def, oU 154 19 (by omega), if_neg h, if_neg k0, if_neg k1, if_neg k2, if_pos k3, v1, bd2_some]
    by_cases k4 : k = 4
    · obtain ⟨U, u1, u2⟩ := Lx_lateGifts_y (fu := fu) hf I h1 (y_off.refl M)
      have oU := u2.trans (y_off0 U)
      obtain ⟨V, v1, v2⟩ := Mo_badStates_y (fu := fu) hf I h1 oU
      apply y_same.mk (M1 := U) (M2 := V) v2
      · show Lx_most fu L M 1 k = _
        unfold Lx_most
        rw [l1, if_pos rfl, if_neg (show ¬ M 1 11 = 0 by omega), p4, l19, p0, l20, if_neg k0, if_neg k1, if_neg k2, if_neg k3, if_pos k4, u1, bd2_some]
      · show Mo_most fu L U 154 k = _
        unfold Mo_most
        rw [l4, if_pos rfl, lt1_def, oU 154 19 (by omega), if_neg h, if_neg k0, if_neg k1, if_neg k2, if_neg k3, if_pos k4, v1, bd2_some]
    by_cases k5 : k = 5
    · refine y_same.mk (M1 := M) (M2 := mu M 154 0 0) (r := y_lng (fun i => M 162 (77 + 315 * i + 2)) (M 162 76)) o1 ?_ ?_
      · show Lx_most fu L M 1 k = _
        unfold Lx_most
        rw [l1, if_pos rfl, if_neg (show ¬ M 1 11 = 0 by omega), p4, l19, p0, l20, if_neg k0, if_neg k1, if_neg k2, if_neg k3, if_neg k4, if_pos k5, if_pos rfl, Af_longestGift_y hf I h1, bd1_some]
      · show Mo_most fu L M 154 k = _
        unfold Mo_most
        rw [l4, if_pos rfl, lt1_def, e19, if_neg h, if_neg k0, if_neg k1, if_neg k2, if_neg k3, if_neg k4, if_pos k5, Mo_longest_y hf I o1, bd1_some]
    by_cases k6 : k = 6
    · refine y_same.mk (M1 := M) (M2 := mu M 154 0 0) (r := y_age (M 162)) o1 ?_ ?_
      · show Lx_most fu L M 1 k = _
        unfold Lx_most
        rw [l1, if_pos rfl, if_neg (show ¬ M 1 11 = 0 by omega), p4, l19, p0, l20, if_neg k0, if_neg k1, if_neg k2, if_neg k3, if_neg k4, if_neg k5, if_pos k6, if_pos rfl, if_pos rfl, Wr_greatestAge (by omega) I.wr I.wv, bd1_some]
      · show Mo_most fu L M 154 k = _
        unfold Mo_most
        rw [l4, if_pos rfl, lt1_def, e19, if_neg h, if_neg k0, if_neg k1, if_neg k2, if_neg k3, if_neg k4, if_neg k5, if_pos k6, Mr_greatestAge (by omega) l4 l62 p18 wv1, bd1_some, m62]
    · refine y_same.mk (M1 := M) (M2 := mu M 154 0 0) (r := -1) o1 ?_ ?_
      · show Lx_most fu L M 1 k = _
        unfold Lx_most
        rw [l1, if_pos rfl, if_neg (show ¬ M 1 11 = 0 by omega), p4, l19, p0, l20, if_neg k0, if_neg k1, if_neg k2, if_neg k3, if_neg k4, if_neg k5, if_neg k6]
      · show Mo_most fu L M 154 k = _
        unfold Mo_most
        rw [l4, if_pos rfl, lt1_def, e19, if_neg h, if_neg k0, if_neg k1, if_neg k2, if_neg k3, if_neg k4, if_neg k5, if_neg k6]
end

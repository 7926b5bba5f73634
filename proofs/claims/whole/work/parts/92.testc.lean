/-! ===== pure: part 92: calls of members and courses ===== -/
section
variable {fu : Nat} {L : zL} {M : zM} {top : Int} {g ga st pt tl wh li e : Int}
theorem y_thr_1 (wh li lim : Int) (w : Int → Int) (s l : Int) : y_thr wh li lim w 1 s l = y_blg wh li lim w s l := by
  unfold y_thr
  by_cases c : s = 0
  · rw [if_pos c, c]
  · rw [if_neg c, if_neg (by decide)]
theorem Lx_tryMember_n (I : y_inv L M top) {g s l : Int} (h : ¬ ((M 154 19 = 1 ∧ 0 ≤ g ∧ g < M 162 76) ∧ (0 ≤ s ∧ s ≤ 2) ∧ 0 ≤ l ∧ l < M 154 20)) : Lx_tryMember fu L M 1 g s l = some (M, 0) := by
  have l1 : L 1 = (12, 0) := I.lay 1 (by decide)
  have l19 : L 19 = (2, 0) := I.lay 19 (by decide)
  have l20 : L 20 = (11, 0) := I.lay 20 (by decide)
  have p4 : M 1 4 = 19 := I.ptr (1, 4, 19) (by decide +kernel)
  have p0 : M 19 0 = 20 := I.ptr (19, 0, 20) (by decide +kernel)
  have e3 : M 20 3 = M 154 20 := I.wr.2.1.1
  have b0 : Lx_tryMember_b32 fu L M 1 g 0 = some (M, 0) := by unfold Lx_tryMember_b32; rw [if_pos rfl]
  unfold Lx_tryMember
  rw [b0, l1, if_pos rfl, p4, l19, if_pos rfl, p0, l20, if_pos rfl, e3]
  by_cases c1 : s < 0
  · rw [if_pos c1]
  · rw [if_neg c1]
    by_cases c2 : 2 < s
    · rw [if_pos c2]
    · rw [if_neg c2]
      by_cases c3 : l < 0
      · rw [if_pos c3]
      · rw [if_neg c3]
        by_cases c4 : l < M 154 20
        · rw [if_pos c4]
          unfold Lx_tryMember_b32
          rw [if_neg (by decide), l1, if_pos rfl, Lx_tryGift_n I (y_off.refl M) (fun z => h ⟨z, by omega, by omega⟩), bd2_some, if_pos rfl]
        · rw [if_neg c4]
theorem Lx_tryMember_y (hf : 400 ≤ fu) (I : y_inv L M top) (D : y_gd L M g ga st pt tl wh li e) {s l : Int} (hs : 0 ≤ s ∧ s ≤ 2) (hl : 0 ≤ l ∧ l < M 154 20) : ∃ N1, Lx_tryMember fu L M 1 g s l = some (N1, 1) ∧ y_off M N1 ∧ y_tr L N1 (M 154 20) (M 162) (M (M ga 5)) (M (M ga 6)) (M (M ga 7)) (M (M ga 8)) st 99 wh li (M 162 74) (M 162 75) (1 - y_ind (y_hv wh li (M 154 20) (M 162) (M (M ga 5)) (M (M ga 6)) (M (M ga 7)) (M (M ga 8)) 99 st)) := by
  have l1 : L 1 = (12, 0) := I.lay 1 (by decide)
  have l19 : L 19 = (2, 0) := I.lay 19 (by decide)
  have l20 : L 20 = (11, 0) := I.lay 20 (by decide)
  have p4 : M 1 4 = 19 := I.ptr (1, 4, 19) (by decide +kernel)
  have p0 : M 19 0 = 20 := I.ptr (19, 0, 20) (by decide +kernel)
  have e3 : M 20 3 = M 154 20 := I.wr.2.1.1
  obtain ⟨N1, a1, a2, a3⟩ := Lx_tryGift_y (fu := fu) hf I D (y_off.refl M)
  refine ⟨N1, ?_, a2, a3⟩
  unfold Lx_tryMember
  rw [if_neg (by omega), if_neg (by omega), if_neg (by omega), l1, if_pos rfl, p4, l19, if_pos rfl, p0, l20, if_pos rfl, e3, if_pos hl.2]
  unfold Lx_tryMember_b32
  rw [if_neg (by decide), l1, if_pos rfl, a1, bd2_some, if_neg (by decide)]
theorem Mo_isAsked_ok (I : y_inv L M top) {N : zM} (o : y_off M N) (g s l : Int) : Mo_isAsked fu L N 154 g s l = some (y_ind ((M 154 19 = 1 ∧ 0 ≤ g ∧ g < M 162 76) ∧ (0 ≤ s ∧ s ≤ 2) ∧ 0 ≤ l ∧ l < M 154 20)) := by
  have l4 : L 154 = (13, 0) := I.lay 154 (by decide)
  have hlv := I.wv.1
  have ew : w32 (M 154 20 - 1) = M 154 20 - 1 := w32_id (by omega)
  unfold Mo_isAsked
  rw [l4, if_pos rfl, y_isG I o, Mo_in_ok, o 154 20 (by omega), ew, Mo_in_ok]
  by_cases h : M 154 19 = 1 ∧ 0 ≤ g ∧ g < M 162 76
  · rw [if_pos h, bd1_some, if_neg (by decide)]
    by_cases h1 : 0 ≤ s ∧ s ≤ 2
    · rw [if_pos h1, bd1_some, if_neg (by decide)]
      by_cases h2 : 0 ≤ l ∧ l ≤ M 154 20 - 1
      · rw [if_pos h2, bd1_some, if_neg (by decide), y_ind_1 ⟨h, h1, by omega⟩]
      · rw [if_neg h2, bd1_some, if_pos rfl, y_ind_0 (fun z => h2 (by omega))]
    · rw [if_neg h1, bd1_some, if_pos rfl, y_ind_0 (fun z => h1 z.2.1)]
  · rw [if_neg h, bd1_some, if_pos rfl, y_ind_0 (fun z => h z.1)]
theorem Mo_isThereNow_ok (I : y_inv L M top) (D : y_gd L M g ga st pt tl wh li e) {N : zM} (o : y_off M N) {s l : Int} (hs : 0 ≤ s ∧ s ≤ 2) (hl : 0 ≤ l ∧ l < M 154 20) :
    ∃ T, Mo_isThereNow fu L N 154 g s l = some (T, y_blg wh li (M 162 75) (M 162) s l) ∧ y_off M T ∧ y_mt L T g wh li (M 162 74) (M 162 75) (M 154 20) 99 (M 162) ∧ y_ms T (fun i => M 162 (77 + 315 * g + (5 + i))) (M (M ga 5)) (M (M ga 6)) (M (M ga 7)) (M (M ga 8)) (M 154 20) e st (82 + 315 * g) 0 e 0 st := by
  have l4 : L 154 = (13, 0) := I.lay 154 (by decide)
  obtain ⟨T, t1, t2, t3⟩ := D.asks (fu := fu) I o
  have oT : y_off M T := o.trans fun a i c => t2 a i (by omega)
  have mt := D.mt I (N := T) (fun a i _ c => oT a i c) (ln := 99) ((oT _ _ (by omega)).trans I.2.2.2.2.2.2.2.2.2) (by omega)
  refine ⟨T, ?_, oT, mt, t3⟩
  unfold Mo_isThereNow
  rw [l4, if_pos rfl, t1, bd1_some, Mo_isThere_ok mt hs hl.1 hl.2, bd1_some, y_thr_1]
/-- the class's belongs in a Trial -/
theorem y_tr.blg (hL : Lay L) {N1 : zM} (hP : Ptr N1) {lv : Int} {w K Q A F : Int → Int} {m ln per lim op : Int} (te : y_te lv w K Q A F m ln) (t : y_tr L N1 lv w K Q A F m ln wh li per lim op) (hwh : 0 ≤ wh ∧ wh ≤ 2) (hli : 0 ≤ li) {s l : Int} (hs : 0 ≤ s ∧ s ≤ 2) (hl : 0 ≤ l ∧ l < lv) : Tr_belongs fu L N1 142 s l = some (y_blg wh li lim w s l) :=
  Tr_belongs_ok hL hP te.1 te.2.1 hli t.2.1 hwh hs hl.1 hl.2
theorem c_behind (hf : 400 ≤ fu) (I : y_inv L M top) (g s l x : Int) : y_same L M (fun M => Lx_behind fu L M 1 g s l x) (fun M => Mo_behind fu L M 154 g s l x) := by
  have l1 : L 1 = (12, 0) := I.lay 1 (by decide)
  have l4 : L 154 = (13, 0) := I.lay 154 (by decide)
  have l42 : L 142 = (9, 0) := I.lay 142 (by decide)
  have hlv := I.wv.1
  by_cases h : (M 154 19 = 1 ∧ 0 ≤ g ∧ g < M 162 76) ∧ (0 ≤ s ∧ s ≤ 2) ∧ 0 ≤ l ∧ l < M 154 20
  · obtain ⟨hg, hs, hl⟩ := id h
    obtain ⟨ga, st, pt, tl, wh, li, e, D⟩ := y_gift2 I hg
    obtain ⟨N1, a1, a2, a3⟩ := Lx_tryMember_y (fu := fu) hf I D hs hl
    have te := D.te (m := st) (ln := 99) I ⟨D.2.2.2.1.2.2.2.1, Int.le_refl _⟩ (by omega)
    have PN := a2.ptr I.ptr
    have eb := a3.blg (fu := fu) I.lay PN te D.2.2.2.1.1 D.2.2.2.1.2.1.1 hs hl
    have eal := Tr_allLives_ok (fu := fu) I.lay PN (by omega) a3
    rw [show w32 (ishl 1 (M 154 20) - 1) = y_all (M 154 20) from rfl] at eal
    have hc0 : ∀ r X, (if r = (0 : Int) then some (N1, -1000000) else X) = (if r = 0 then some (N1, (-1000000 : Int)) else X) := fun _ _ => rfl
    have head : ∀ X, (bd1 (Tr_isSet fu L N1 142 x) fun r6 => (if r6 = 0 then (some (N1, (-1000000 : Int))) else (bd1 (Tr_belongs fu L N1 142 s l) fun r8 => (if r8 = 0 then (some (N1, (-2))) else (bd2 (Tr_behindOf fu L N1 142 s l x) fun M11 r10 => (if (r10 : Int) < 1000000 then (some (M11, r10)) else (some (M11, (-1))))))))) = X → Lx_behind fu L M 1 g s l x = X := fun X hX => by
      unfold Lx_behind
      rw [l1, if_pos rfl, a1, bd2_some, if_neg (by decide), y_9 I a2, l42, if_pos rfl]
      exact hX
    have hset : Tr_isSet fu L N1 142 x = some (if 0 ≤ x ∧ x ≤ y_all (M 154 20) then 1 else 0) := by
      unfold Tr_isSet
      rw [l42, if_pos rfl, eal, bd1_some]
      (repeat' split) <;> first | rfl | omega
    by_cases hx : 0 ≤ x ∧ x ≤ y_all (M 154 20)
    · rcases y_blg_01 wh li (M 162 75) (M 162) s l with hb | hb
      · have o2 := a2.trans (y_off0 N1)
        obtain ⟨T, t1, t2, _⟩ := Mo_isThereNow_ok (fu := fu) I D o2 hs hl
        refine y_same.mk (M1 := N1) (M2 := T) (r := -2) t2 (head _ ?_) ?_
        · rw [hset, if_pos hx, bd1_some, if_neg (by decide), eb, hb, bd1_some, if_pos rfl]
        · show Mo_behind fu L N1 154 g s l x = _
          unfold Mo_behind
          rw [l4, if_pos rfl, lt1_def, Mo_isAsked_ok I o2, y_ind_1 h, bd1_some, if_neg (by decide), Mo_allLives_ok I (o2 _ _ (by omega)), bd1_some, Mo_in_ok, if_pos hx, bd1_some, if_neg (by decide), t1, bd2_some, hb, if_pos rfl]
      · obtain ⟨N2, b1, b2⟩ := Tr_behindOf_ok (fu := fu) (set := x) (sort := s) (l := l) hf I.lay PN te a3 hl
        have oN2 := a2.trans b2.off
        have o2 := oN2.trans (y_off0 N2)
        obtain ⟨T, t1, t2, t3, t4⟩ := Mo_isThereNow_ok (fu := fu) I D o2 hs hl
        obtain ⟨U, u1, u2, u3, u4⟩ := Mo_begin_ok (fu := fu) t3 t4
        obtain ⟨V, v1, v2⟩ := Mo_behindSo_ok (fu := fu) hf (t3.ob u2) (t4.ob u2) u3 u4 (sort := s) (l := l) (set := x) hl
        have hbb := y_bhv_b te (set := x) (sort := s) (l := l) hl
        refine y_same.mk (M1 := N2) (M2 := V) (r := if y_bhv (M 154 20) (M 162) (M (M ga 5)) (M (M ga 6)) (M (M ga 7)) (M (M ga 8)) st 99 x s l < 1000000 then y_bhv (M 154 20) (M 162) (M (M ga 5)) (M (M ga 6)) (M (M ga 7)) (M (M ga 8)) st 99 x s l else -1) (t2.trans (u2.trans v2).off) (head _ ?_) ?_
        · rw [hset, if_pos hx, bd1_some, if_neg (by decide), eb, hb, bd1_some, if_neg (by decide), b1, bd2_some]
          split <;> rfl
        · show Mo_behind fu L N2 154 g s l x = _
          unfold Mo_behind
          rw [l4, if_pos rfl, lt1_def, Mo_isAsked_ok I o2, y_ind_1 h, bd1_some, if_neg (by decide), Mo_allLives_ok I (o2 _ _ (by omega)), bd1_some, Mo_in_ok, if_pos hx, bd1_some, if_neg (by decide), t1, bd2_some, hb, if_neg (by decide), u1, bd1_some, v1, bd2_some]
          generalize y_bhv (M 154 20) (M 162) (M (M ga 5)) (M (M ga 6)) (M (M ga 7)) (M (M ga 8)) st 99 x s l = z at hbb
          unfold y_me
          by_cases c : z = 1000000
          · rw [if_pos c, if_neg (by decide), if_neg (by omega)]
          · rw [if_neg c, if_pos (by omega), if_pos (by omega)]
    · refine y_same.mk (M1 := N1) (M2 := mu N1 154 0 0) (r := -1000000) (a2.trans (y_off0 N1)) (head _ ?_) ?_
      · rw [hset, if_neg hx, bd1_some, if_pos rfl]
      · have o2 := a2.trans (y_off0 N1)
        show Mo_behind fu L N1 154 g s l x = _
        unfold Mo_behind
        rw [l4, if_pos rfl, lt1_def, Mo_isAsked_ok I o2, y_ind_1 h, bd1_some, if_neg (by decide), Mo_allLives_ok I (o2 _ _ (by omega)), bd1_some, Mo_in_ok, if_neg hx, bd1_some, if_pos rfl]
  · refine y_same.mk (M1 := M) (M2 := mu M 154 0 0) (r := -1000000) (y_off0 M) ?_ ?_
    · show Lx_behind fu L M 1 g s l x = _
      unfold Lx_behind
      rw [l1, if_pos rfl, Lx_tryMember_n I h, bd2_some, if_pos rfl]
    · show Mo_behind fu L M 154 g s l x = _
      unfold Mo_behind
      rw [l4, if_pos rfl, lt1_def, Mo_isAsked_ok I (y_off0 M), y_ind_0 h, bd1_some, if_pos rfl]
theorem c_soonest (hf : 400 ≤ fu) (I : y_inv L M top) (g s l : Int) : y_same L M (fun M => Lx_soonest fu L M 1 g s l) (fun M => Mo_soonest fu L M 154 g s l) := by
  have l1 : L 1 = (12, 0) := I.lay 1 (by decide)
  have l4 : L 154 = (13, 0) := I.lay 154 (by decide)
  have l42 : L 142 = (9, 0) := I.lay 142 (by decide)
  have hlv := I.wv.1
  by_cases h : (M 154 19 = 1 ∧ 0 ≤ g ∧ g < M 162 76) ∧ (0 ≤ s ∧ s ≤ 2) ∧ 0 ≤ l ∧ l < M 154 20
  · obtain ⟨hg, hs, hl⟩ := id h
    obtain ⟨ga, st, pt, tl, wh, li, e, D⟩ := y_gift2 I hg
    obtain ⟨N1, a1, a2, a3⟩ := Lx_tryMember_y (fu := fu) hf I D hs hl
    have te := D.te (m := st) (ln := 99) I ⟨D.2.2.2.1.2.2.2.1, Int.le_refl _⟩ (by omega)
    have PN := a2.ptr I.ptr
    have eb := a3.blg (fu := fu) I.lay PN te D.2.2.2.1.1 D.2.2.2.1.2.1.1 hs hl
    rcases y_blg_01 wh li (M 162 75) (M 162) s l with hb | hb
    · have o2 := a2.trans (y_off0 N1)
      obtain ⟨T, t1, t2, _⟩ := Mo_isThereNow_ok (fu := fu) I D o2 hs hl
      refine y_same.mk (M1 := N1) (M2 := T) (r := -1) t2 ?_ ?_
      · show Lx_soonest fu L M 1 g s l = _
        unfold Lx_soonest
        rw [l1, if_pos rfl, a1, bd2_some, if_neg (by decide), y_9 I a2, l42, if_pos rfl, eb, hb, bd1_some, if_pos rfl]
      · show Mo_soonest fu L N1 154 g s l = _
        unfold Mo_soonest
        rw [l4, if_pos rfl, lt1_def, Mo_isAsked_ok I o2, y_ind_1 h, bd1_some, if_neg (by decide), t1, bd2_some, hb, if_pos rfl]
    · obtain ⟨N2, b1, b2⟩ := Tr_soonestOf_ok (fu := fu) (sort := s) (l := l) hf I.lay PN te a3 hl
      have oN2 := a2.trans b2.off
      have o2 := oN2.trans (y_off0 N2)
      obtain ⟨T, t1, t2, t3, t4⟩ := Mo_isThereNow_ok (fu := fu) I D o2 hs hl
      obtain ⟨U, u1, u2, u3, u4⟩ := Mo_begin_ok (fu := fu) t3 t4
      obtain ⟨V, hV⟩ : ∃ V, V = mu (mu U 154 40 s) 154 41 l := ⟨_, rfl⟩
      have oV : y_ob U V := by rw [hV]; exact y_obm (y_obm (y_ob.refl U) (by omega)) (by omega)
      have fV : ∀ j, ¬ (40 ≤ j ∧ j ≤ 41) → V 154 j = U 154 j := fun j hj => by rw [hV, mx_ne (by omega), mx_ne (by omega)]
      have d40 : V 154 40 = s ∧ V 154 41 = l := by rw [hV]; simp (disch := omega) only [mx_ne, mx_same, and_self]
      have sV := t4.ob (u2.trans oV)
      have mV := t3.ob (u2.trans oV)
      have vz := y_z_v (y := 0) I.wv (fun z z0 z1 => (I.age z0 z1).2.2.1) (by omega)
      have gV : y_go L V (82 + 315 * g) e := ⟨u3.1, u3.2.1, (fV _ (by omega)).trans u3.2.2.1, (fV _ (by omega)).trans u3.2.2.2.1, u3.2.2.2.2⟩
      have sn : y_sn L V (M 154 20) s l (y_z (M 162) (M 154 20) 0) := ⟨I.lay 164 (by decide), ⟨mV.2.2.1.2.1, d40.1, d40.2⟩, fun z z0 z1 => by
        have := mV.2.2.2.2.1 z z0 z1
        rw [y_z_b (by omega)]
        omega, hl⟩
      have hst := D.2.2.2.1.2.2.2
      have yb := fun (k : Int) (k0 : 0 ≤ k) (k1 : k < st) => y_sval_b (ln := 99) (sort := s) (life := l) (F := M (M ga 8)) vz (by omega) hl D.sk (k.toNat + 1) k k0 k1 (by omega)
      have e1 := Mo_soonAll_top (fu := fu) hf gV sV.1 vz sn hst.2 yb sV.2.1 ((fV _ (by omega)).trans u4)
      have q40 : mu V 154 30 (82 + 315 * g + e) 154 40 = s := (mx_ne (by omega)).trans d40.1
      have esb : Mo_soonBorn fu L (mu V 154 30 (82 + 315 * g + e)) 154 = some (y_sb s) := by
        unfold Mo_soonBorn y_sb
        rw [l4, if_pos rfl, q40]
        (repeat' split) <;> rfl
      refine y_same.mk (M1 := N2) (M2 := mu V 154 30 (82 + 315 * g + e)) (r := max (y_val 0 (y_sop (y_z (M 162) (M 154 20) 0) (M (M ga 5)) (M (M ga 6)) (M (M ga 7)) 99 s l) (M (M ga 8)) (st - 1)) (y_sb s)) (t2.trans ((u2.trans oV).trans (y_obm (y_ob.refl V) (by omega))).off) ?_ ?_
      · show Lx_soonest fu L M 1 g s l = _
        unfold Lx_soonest
        rw [l1, if_pos rfl, a1, bd2_some, if_neg (by decide), y_9 I a2, l42, if_pos rfl, eb, hb, bd1_some, if_neg (by decide), b1, bd2_some]
      · show Mo_soonest fu L N2 154 g s l = _
        unfold Mo_soonest
        rw [l4, if_pos rfl, lt1_def, Mo_isAsked_ok I o2, y_ind_1 h, bd1_some, if_neg (by decide), t1, bd2_some, hb, if_neg (by decide), u1, bd1_some, lt1_def, lt1_def, ← hV, e1, bd2_some, esb, bd1_some]
  · refine y_same.mk (M1 := M) (M2 := mu M 154 0 0) (r := -1000000) (y_off0 M) ?_ ?_
    · show Lx_soonest fu L M 1 g s l = _
      unfold Lx_soonest
      rw [l1, if_pos rfl, Lx_tryMember_n I h, bd2_some, if_pos rfl]
    · show Mo_soonest fu L M 154 g s l = _
      unfold Mo_soonest
      rw [l4, if_pos rfl, lt1_def, Mo_isAsked_ok I (y_off0 M), y_ind_0 h, bd1_some, if_pos rfl]
theorem c_course (hf : 400 ≤ fu) (I : y_inv L M top) (g s l x : Int) : y_same L M (fun M => Lx_course fu L M 1 g s l x) (fun M => Mo_course fu L M 154 g s l x) := by
  have l1 : L 1 = (12, 0) := I.lay 1 (by decide)
  have l4 : L 154 = (13, 0) := I.lay 154 (by decide)
  have l42 : L 142 = (9, 0) := I.lay 142 (by decide)
  have hlv := I.wv.1
  by_cases h : (M 154 19 = 1 ∧ 0 ≤ g ∧ g < M 162 76) ∧ (0 ≤ s ∧ s ≤ 2) ∧ 0 ≤ l ∧ l < M 154 20
  · obtain ⟨hg, hs, hl⟩ := id h
    obtain ⟨ga, st, pt, tl, wh, li, e, D⟩ := y_gift2 I hg
    obtain ⟨N1, a1, a2, a3⟩ := Lx_tryMember_y (fu := fu) hf I D hs hl
    have te := D.te (m := st) (ln := 99) I ⟨D.2.2.2.1.2.2.2.1, Int.le_refl _⟩ (by omega)
    have PN := a2.ptr I.ptr
    have eb := a3.blg (fu := fu) I.lay PN te D.2.2.2.1.1 D.2.2.2.1.2.1.1 hs hl
    have eC := Tr_isCourse_ok (fu := fu) I.lay PN (by omega) a3 x
    rcases Classical.em (y_isc (M 154 20) x) with hx | hx
    · rw [y_ind_1 hx] at eC
      rcases y_blg_01 wh li (M 162 75) (M 162) s l with hb | hb
      · have o2 := a2.trans (y_off0 N1)
        obtain ⟨T, t1, t2, _⟩ := Mo_isThereNow_ok (fu := fu) I D o2 hs hl
        refine y_same.mk (M1 := N1) (M2 := T) (r := -3) t2 ?_ ?_
        · show Lx_course fu L M 1 g s l x = _
          unfold Lx_course
          rw [l1, if_pos rfl, a1, bd2_some, if_neg (by decide), y_9 I a2, l42, if_pos rfl, eC, bd1_some, if_neg (by decide), eb, hb, bd1_some, if_pos rfl]
        · show Mo_course fu L N1 154 g s l x = _
          unfold Mo_course
          rw [l4, if_pos rfl, lt1_def, Mo_isAsked_ok I o2, y_ind_1 h, bd1_some, if_neg (by decide), Mo_isCourse_ok l4 (o2 _ _ (by omega)), y_ind_1 hx, bd1_some, if_neg (by decide), t1, bd2_some, hb, if_pos rfl]
      · obtain ⟨N2, b1, b2⟩ := Tr_yearByCourse_ok (fu := fu) (sort := s) (l := l) (c := x) hf I.lay PN te a3 hs hl
        have oN2 := a2.trans b2.off
        have o2 := oN2.trans (y_off0 N2)
        obtain ⟨T, t1, t2, t3, t4⟩ := Mo_isThereNow_ok (fu := fu) I D o2 hs hl
        obtain ⟨V, v1, v2⟩ := Mo_vestsBy_ok (fu := fu) hf t3 t4 hs hl x
        have yb := y_yf_b te (sort := s) (l := l) hl x
        refine y_same.mk (M1 := N2) (M2 := V) (r := y_yf (M 154 20) (M 162) (M (M ga 5)) (M (M ga 6)) (M (M ga 7)) (M (M ga 8)) st 99 s l x) (t2.trans v2.off) ?_ ?_
        · show Lx_course fu L M 1 g s l x = _
          unfold Lx_course
          rw [l1, if_pos rfl, a1, bd2_some, if_neg (by decide), y_9 I a2, l42, if_pos rfl, eC, bd1_some, if_neg (by decide), eb, hb, bd1_some, if_neg (by decide), b1, bd2_some]
        · show Mo_course fu L N2 154 g s l x = _
          unfold Mo_course
          rw [l4, if_pos rfl, lt1_def, Mo_isAsked_ok I o2, y_ind_1 h, bd1_some, if_neg (by decide), Mo_isCourse_ok l4 (o2 _ _ (by omega)), y_ind_1 hx, bd1_some, if_neg (by decide), t1, bd2_some, hb, if_neg (by decide), v1, bd2_some]
          generalize y_yf (M 154 20) (M 162) (M (M ga 5)) (M (M ga 6)) (M (M ga 7)) (M (M ga 8)) st 99 s l x = z at yb
          unfold y_yb at yb
          unfold y_mv
          by_cases d1 : z = -1
          · simp only [d1, ↓reduceIte]
          · by_cases d2 : z = -2
            · simp only [d2, Int.reduceEq, Int.reduceNeg, ↓reduceIte]
            · rw [if_neg d1, if_neg d2, if_neg (by omega), if_neg (by omega)]
    · rw [y_ind_0 hx] at eC
      have o2 := a2.trans (y_off0 N1)
      refine y_same.mk (M1 := N1) (M2 := mu N1 154 0 0) (r := -1000000) o2 ?_ ?_
      · show Lx_course fu L M 1 g s l x = _
        unfold Lx_course
        rw [l1, if_pos rfl, a1, bd2_some, if_neg (by decide), y_9 I a2, l42, if_pos rfl, eC, bd1_some, if_pos rfl]
      · show Mo_course fu L N1 154 g s l x = _
        unfold Mo_course
        rw [l4, if_pos rfl, lt1_def, Mo_isAsked_ok I o2, y_ind_1 h, bd1_some, if_neg (by decide), Mo_isCourse_ok l4 (o2 _ _ (by omega)), y_ind_0 hx, bd1_some, if_pos rfl]
  · refine y_same.mk (M1 := M) (M2 := mu M 154 0 0) (r := -1000000) (y_off0 M) ?_ ?_
    · show Lx_course fu L M 1 g s l x = _
      unfold Lx_course
      rw [l1, if_pos rfl, Lx_tryMember_n I h, bd2_some, if_pos rfl]
    · show Mo_course fu L M 154 g s l x = _
      unfold Mo_course
      rw [l4, if_pos rfl, lt1_def, Mo_isAsked_ok I (y_off0 M), y_ind_0 h, bd1_some, if_pos rfl]
end

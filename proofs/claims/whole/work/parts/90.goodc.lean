/-! ===== pure: part 90: calls of the test ===== -/
/-- all of a gift that the test needs -/
def y_gd (L : zL) (M : zM) (g ga st pt tl wh li e : Int) : Prop :=
  (M 154 19 = 1 ∧ 0 ≤ g ∧ g < M 162 76 ∧ M 162 76 ≤ 8) ∧ (M 24 g = ga ∧ y_gc L M ga st pt tl ∧ M ga 0 = wh ∧ M ga 1 = li) ∧ (M 162 (77 + 315 * g + 0) = wh ∧ M 162 (77 + 315 * g + 1) = li ∧ M 162 (77 + 315 * g + 3) = pt ∧ M 162 (77 + 315 * g + 4) = e) ∧ ((0 ≤ wh ∧ wh ≤ 2) ∧ (0 ≤ li ∧ li < M 154 20) ∧ (0 ≤ e ∧ e ≤ 310) ∧ 1 ≤ st ∧ st ≤ 31) ∧ y_ws (fun i => M 162 (77 + 315 * g + (5 + i))) e ∧
  y_seg (fun i => M 162 (77 + 315 * g + (5 + i))) (M (M ga 5)) (M (M ga 6)) (M (M ga 7)) (M (M ga 8)) (M 154 20) e st 2 5 0 e 0 st ∧
  (1 ≤ pt ∧ pt ≤ 16 ∧ ∃ sb pb : Int → Int, sb 0 = 0 ∧ sb pt = e + 1 ∧ ∀ k, 0 ≤ k → k < pt → y_seg (fun i => M 162 (77 + 315 * g + (5 + i))) (M (M ga 5)) (M (M ga 6)) (M (M ga 7)) (M (M ga 8)) (M 154 20) e st 1 5 (sb k) (sb (k + 1) - 1) (pb k) (M (M ga 9) k) ∧ (k + 1 < pt → M 162 (77 + 315 * g + (5 + (sb (k + 1) - 1))) = 9))
section
variable {fu : Nat} {L : zL} {M : zM} {top : Int} {g ga st pt tl wh li e : Int}
theorem y_gift2 (I : y_inv L M top) {g : Int} (h : M 154 19 = 1 ∧ 0 ≤ g ∧ g < M 162 76) : ∃ ga st pt tl wh li e, y_gd L M g ga st pt tl wh li e := by
  have hb := I.2.2.2.2.1.2.2.1.1
  obtain ⟨st, pt, tl, gc, g2, g3, g4, g5, g6, _⟩ := I.2.2.2.2.1.2.2.2.2.2.2 g h.2.1 h.2.2
  have hst := gc.2.2.2.2
  obtain ⟨p1, sb, pb, z1, z2, z3⟩ := g6
  exact ⟨M (19 + 5) g, st, pt, tl, M 162 (77 + 315 * g + 0), M 162 (77 + 315 * g + 1), M 162 (77 + 315 * g + 4), ⟨h.1, h.2.1, h.2.2, hb.2⟩, ⟨rfl, gc, g2.1, g2.2.1⟩, ⟨rfl, rfl, g2.2.2.2.symm, rfl⟩, ⟨g3.1, g3.2.1, g3.2.2.1, g3.2.2.2, hst.1.2⟩, g4, g5, p1, hst.2.1.2, sb, pb, z1, z2, z3⟩
theorem y_gd.at (D : y_gd L M g ga st pt tl wh li e) (I : y_inv L M top) {N : zM} (o : y_off M N) : Af_giftAt fu L N 19 g = some ga ∧ ga ≠ 0 ∧ L ga = (4, 0) ∧ N ga 3 = st := by
  obtain ⟨⟨d1, d2, d3, d4⟩, ⟨e1, e2, e3, e4⟩, _⟩ := D
  have l19 : L 19 = (2, 0) := I.lay 19 (by decide)
  have l24 : L 24 = (103, 8) := I.lay 24 (by decide)
  have q := e2.2.2.2.1.1
  have h2 : N 19 2 = M 162 76 := (o _ _ (by omega)).trans I.2.2.2.2.1.2.1.2.2.1
  have h1 : N 19 1 = 24 := (o.ptr I.ptr) (19, 1, 24) (by decide +kernel)
  have h24 : N 24 g = ga := (o _ _ (by omega)).trans e1
  refine ⟨?_, by omega, e2.1, (o _ _ (by omega)).trans e2.2.1.1⟩
  unfold Af_giftAt
  have c1 : ¬ g < 0 := by omega
  have c2 : g < 8 := by omega
  simp only [c1, l19, h2, d2, d3, h1, l24, c2, and_self, ↓reduceIte, h24]
theorem y_gd.sk (D : y_gd L M g ga st pt tl wh li e) : ∀ k, 0 ≤ k → k < st → y_sk (M (M ga 5)) (M (M ga 6)) (M (M ga 7)) (M (M ga 8)) (M 154 20) k := (y_seg_b D.2.2.2.2.2.1).2.2
theorem y_gd.take (D : y_gd L M g ga st pt tl wh li e) (hf : 400 ≤ fu) (I : y_inv L M top) {N : zM} (o : y_off M N) {m ln : Int} (hm : 1 ≤ m ∧ m ≤ st) (hln : 0 ≤ ln ∧ ln ≤ 99) :
    ∃ N1 op, Tr_take fu L N 142 19 ga m ln = some N1 ∧ y_off M N1 ∧ y_tr L N1 (M 154 20) (M 162) (M (M ga 5)) (M (M ga 6)) (M (M ga 7)) (M (M ga 8)) m ln wh li (M 162 74) (M 162 75) op := by
  have sk := D.sk
  obtain ⟨_, ⟨e1, e2, e3, e4⟩, _, ⟨b1, b2, b3, b4⟩, _⟩ := D
  have q := e2.2.2.2.1
  have G : ∀ j, N ga j = M ga j := fun j => o ga j (by omega)
  have r5 := o.hi q.2.1
  have r6 := o.hi q.2.2.1
  have r7 := o.hi q.2.2.2.1
  have r8 := o.hi q.2.2.2.2.1
  have m20 : N 154 20 = M 154 20 := o _ _ (by omega)
  have m62 : N 162 = M 162 := o.row fun i => by omega
  obtain ⟨N1, op, a1, a2, a3⟩ := Tr_take_ok (fu := fu) hf (I.off o) (o.gc e2) ((G 0).trans e3) ((G 1).trans e4) b1 (by rw [m20]; exact b2) (by rw [G 5, G 6, G 7, G 8, r5, r6, r7, r8, m20]; exact sk) hm hln
  rw [G 5, G 6, G 7, G 8, r5, r6, r7, r8, m20, m62] at a3
  exact ⟨N1, op, a1, o.trans a2, a3⟩
theorem y_gd.te (D : y_gd L M g ga st pt tl wh li e) (I : y_inv L M top) {m ln : Int} (hm : 1 ≤ m ∧ m ≤ st) (hln : 0 ≤ ln ∧ ln ≤ 99) : y_te (M 154 20) (M 162) (M (M ga 5)) (M (M ga 6)) (M (M ga 7)) (M (M ga 8)) m ln := by
  have := D.2.2.2.1
  exact ⟨I.wv, fun l l0 l1 => (I.age l0 l1).2.2.1, ⟨hm.1, by omega⟩, hln, fun k k0 k1 => D.sk k k0 (by omega)⟩
theorem y_gd.mt (D : y_gd L M g ga st pt tl wh li e) (I : y_inv L M top) {N : zM} (o : ∀ a i, ¬ (a = 154 ∧ i = 32) → ¬ y_scr a i → N a i = M a i) {ln : Int} (h32 : N 154 32 = ln) (hln : 0 ≤ ln ∧ ln ≤ 99) : y_mt L N g wh li (M 162 74) (M 162 75) (M 154 20) ln (M 162) := by
  obtain ⟨⟨d1, d2, d3, d4⟩, ⟨e1, e2, e3, e4⟩, ⟨f1, f2, f3, f4⟩, ⟨b1, b2, b3, b4⟩, _⟩ := D
  have P := I.ptr
  refine ⟨⟨by omega, b1, b2, y_per I, hln⟩, ⟨I.lay 154 (by decide), I.lay 162 (by decide), I.lay 164 (by decide), I.lay 165 (by decide), I.lay 169 (by decide)⟩, ⟨(o _ _ (by omega) (by omega)).trans (P (154, 18, 162) (by decide +kernel)), (o _ _ (by omega) (by omega)).trans (P (154, 22, 164) (by decide +kernel)), (o _ _ (by omega) (by omega)).trans (P (154, 23, 165) (by decide +kernel)), (o _ _ (by omega) (by omega)).trans (P (154, 47, 169) (by decide +kernel)), o _ _ (by omega) (by omega), h32⟩, ⟨(o _ _ (by omega) (by omega)).trans f1, (o _ _ (by omega) (by omega)).trans f2, o _ _ (by omega) (by omega), o _ _ (by omega) (by omega)⟩, fun l l0 l1 => ?_, I.wv⟩
  have h := I.age l0 l1
  rw [o _ _ (by omega) (by omega), o _ _ (by omega) (by omega)]
  omega
theorem y_gd.sg (D : y_gd L M g ga st pt tl wh li e) {N : zM} (o : ∀ i, N 162 i = M 162 i) : y_sg N (fun i => M 162 (77 + 315 * g + (5 + i))) (82 + 315 * g) e := by
  obtain ⟨_, _, _, ⟨b1, b2, b3, b4⟩, ws, _⟩ := D
  refine ⟨fun i i0 i1 => ?_, ws, b3.2⟩
  rw [o]
  show M 162 (82 + 315 * g + i) = M 162 (77 + 315 * g + (5 + i))
  congr 1; omega
theorem y_op {op : Int} {p : Prop} (h1 : op = 0 ∨ op = 1) (h2 : op = 0 ↔ p) : op = 1 - y_ind p := by
  rcases h1 with z | z
  · rw [y_ind_1 (h2.1 z)]; omega
  · rw [y_ind_0 (fun hp => by have := h2.2 hp; omega)]; omega
theorem y_op01 (p : Prop) : (1 - y_ind p = 0 ∨ 1 - y_ind p = 1) ∧ (1 - y_ind p = 0 ↔ p) := by
  rcases Classical.em p with h | h
  · rw [y_ind_1 h]; exact ⟨Or.inl (by omega), fun _ => h, fun _ => by omega⟩
  · rw [y_ind_0 h]; exact ⟨Or.inr (by omega), fun z => absurd z (by decide), fun z => absurd z h⟩
/-- asksAll -/
theorem y_gd.asks (D : y_gd L M g ga st pt tl wh li e) (I : y_inv L M top) {N : zM} (o : y_off M N) : ∃ T, Mo_asksAll fu L N 154 g = some T ∧ (∀ a i, ¬ (a = 154 ∧ 45 ≤ i ∧ i ≤ 46) → T a i = N a i) ∧ y_ms T (fun i => M 162 (77 + 315 * g + (5 + i))) (M (M ga 5)) (M (M ga 6)) (M (M ga 7)) (M (M ga 8)) (M 154 20) e st (82 + 315 * g) 0 e 0 st := by
  have sk := D.sk
  have D' := D
  obtain ⟨⟨d1, d2, d3, d4⟩, ⟨e1, e2, e3, e4⟩, ⟨f1, f2, f3, f4⟩, ⟨b1, b2, b3, b4⟩, ws, seg, _⟩ := D
  have l4 : L 154 = (13, 0) := I.lay 154 (by decide)
  have l62 : L 162 = (101, 2597) := I.lay 162 (by decide)
  have p18 : N 154 18 = 162 := y_18 I o
  have ew : w32 (77 + 315 * g + 5) = 82 + 315 * g := by rw [w32_id (by omega)]; omega
  have ew4 : w32 (77 + 315 * g + 4) = 77 + 315 * g + 4 := w32_id (by omega)
  have g1 : 0 ≤ 77 + 315 * g + 4 := by omega
  have g2 : 77 + 315 * g + 4 < 2597 := by omega
  have ewe : w32 (82 + 315 * g + e) = 82 + 315 * g + e := w32_id (by omega)
  have a18 : mu N 154 45 (82 + 315 * g) 154 18 = 162 := (mx_ne (by omega)).trans p18
  have a45 : mu N 154 45 (82 + 315 * g) 154 45 = 82 + 315 * g := mx_same _ _ _ _
  have a62 : mu N 154 45 (82 + 315 * g) 162 (77 + 315 * g + 4) = e := ((mx_ne (by omega)).trans (o _ _ (by omega))).trans f4
  have fr : ∀ a i, ¬ (a = 154 ∧ 45 ≤ i ∧ i ≤ 46) → mu (mu N 154 45 (82 + 315 * g)) 154 46 (82 + 315 * g + e) a i = N a i := fun a i c => by rw [mx_ne (by omega), mx_ne (by omega)]
  refine ⟨mu (mu N 154 45 (82 + 315 * g)) 154 46 (82 + 315 * g + e), ?_, fr, ⟨D'.sg (fun i => (fr _ _ (by omega)).trans (o _ _ (by omega))), Or.inr seg, ⟨?_, mx_same _ _ _ _⟩, by omega, b4.2, sk⟩⟩
  · unfold Mo_asksAll
    simp only [Mo_giftAt_ok (show 0 ≤ g ∧ g ≤ 8 by omega), bd1_some, l4, ↓reduceIte, ew, ↓lt1_def, a18, l62, ew4, g1, g2, and_self, a45, a62, ewe]
  · rw [mx_ne (by omega), mx_same]; omega
theorem Mo_allLives_ok (I : y_inv L M top) {N : zM} (h : N 154 20 = M 154 20) : Mo_allLives fu L N 154 = some (y_all (M 154 20)) := by
  have l4 : L 154 = (13, 0) := I.lay 154 (by decide)
  unfold Mo_allLives
  rw [l4, if_pos rfl, h]; rfl
/-- the gift g passes the test -/
def y_gg (M : zM) (g ga st wh li : Int) : Prop := y_good (M 154 20) (M 162) (M (M ga 5)) (M (M ga 6)) (M (M ga 7)) (M (M ga 8)) st 99 wh li (M 162 74) (M 162 75) (1 - y_ind (y_hv wh li (M 154 20) (M 162) (M (M ga 5)) (M (M ga 6)) (M (M ga 7)) (M (M ga 8)) 99 st)) (y_all (M 154 20))
theorem Lx_tryGift_y (hf : 400 ≤ fu) (I : y_inv L M top) (D : y_gd L M g ga st pt tl wh li e) {N : zM} (o : y_off M N) : ∃ N1, Lx_tryGift fu L N 1 g = some (N1, 1) ∧ y_off M N1 ∧ y_tr L N1 (M 154 20) (M 162) (M (M ga 5)) (M (M ga 6)) (M (M ga 7)) (M (M ga 8)) st 99 wh li (M 162 74) (M 162 75) (1 - y_ind (y_hv wh li (M 154 20) (M 162) (M (M ga 5)) (M (M ga 6)) (M (M ga 7)) (M (M ga 8)) 99 st)) := by
  have l1 : L 1 = (12, 0) := I.lay 1 (by decide)
  have l19 : L 19 = (2, 0) := I.lay 19 (by decide)
  have l42 : L 142 = (9, 0) := I.lay 142 (by decide)
  have P := o.ptr I.ptr
  have p4 : N 1 4 = 19 := P (1, 4, 19) (by decide +kernel)
  have p9 : N 1 9 = 142 := P (1, 9, 142) (by decide +kernel)
  obtain ⟨g1, g2, g3, g4⟩ := D.at (fu := fu) I o
  obtain ⟨N1, op, a1, a2, a3⟩ := D.take (fu := fu) hf I o (m := st) (ln := 99) ⟨D.2.2.2.1.2.2.2.1, Int.le_refl _⟩ (by omega)
  refine ⟨N1, ?_, a2, ?_⟩
  · unfold Lx_tryGift
    rw [l1, if_pos rfl, p4, l19, if_pos rfl, g1, bd1_some, if_neg g2, g3, if_pos rfl, p9, l42, if_pos rfl, g4, a1, bd1_some]
  · have := y_op a3.2.2.2.2.1 a3.2.2.2.2.2.1
    rw [← this]
    exact a3
theorem Lx_tryGift_n (I : y_inv L M top) {N : zM} (o : y_off M N) {g : Int} (h : ¬ (M 154 19 = 1 ∧ 0 ≤ g ∧ g < M 162 76)) : Lx_tryGift fu L N 1 g = some (N, 0) := by
  have l1 : L 1 = (12, 0) := I.lay 1 (by decide)
  have l19 : L 19 = (2, 0) := I.lay 19 (by decide)
  have p4 : N 1 4 = 19 := (o.ptr I.ptr) (1, 4, 19) (by decide +kernel)
  have hn : ¬ (N 154 19 = 1 ∧ 0 ≤ g ∧ g < N 162 76) := by rw [o 154 19 (by omega), o 162 76 (by omega)]; exact h
  unfold Lx_tryGift
  rw [l1, if_pos rfl, p4, l19, if_pos rfl, Af_giftAt_n (I.off o) hn, bd1_some, if_pos rfl]
theorem y_9 (I : y_inv L M top) {N : zM} (o : y_off M N) : N 1 9 = 142 := (o.ptr I.ptr) (1, 9, 142) (by decide +kernel)
/-- the class: tryGift, then passes(allLives) -/
theorem cl_good (hf : 400 ≤ fu) (I : y_inv L M top) (D : y_gd L M g ga st pt tl wh li e) {N : zM} (o : y_off M N) : ∃ N1 N2, Lx_tryGift fu L N 1 g = some (N1, 1) ∧ N1 1 9 = 142 ∧ Tr_allLives fu L N1 142 = some (y_all (M 154 20)) ∧ Tr_passes fu L N1 142 (y_all (M 154 20)) = some (N2, y_ind (y_gg M g ga st wh li)) ∧ y_off M N2 := by
  obtain ⟨N1, a1, a2, a3⟩ := Lx_tryGift_y (fu := fu) hf I D o
  have te := D.te (m := st) (ln := 99) I ⟨D.2.2.2.1.2.2.2.1, Int.le_refl _⟩ (by omega)
  obtain ⟨N2, b1, b2⟩ := Tr_passes_ok (fu := fu) hf I.lay (a2.ptr I.ptr) te a3 (y_all (M 154 20))
  exact ⟨N1, N2, a1, y_9 I a2, Tr_allLives_ok I.lay (a2.ptr I.ptr) (by have := I.wv.1; omega) a3, b1, a2.trans b2.off⟩
/-- the model: isGoodGift -/
theorem mo_good (hf : 400 ≤ fu) (I : y_inv L M top) (D : y_gd L M g ga st pt tl wh li e) {N : zM} (o : y_off M N) : ∃ T, Mo_isGoodGift fu L N 154 g = some (T, y_ind (y_gg M g ga st wh li)) ∧ y_off M T := by
  have l4 : L 154 = (13, 0) := I.lay 154 (by decide)
  obtain ⟨T, t1, t2, t3⟩ := D.asks (fu := fu) I o
  have oT : y_off M T := o.trans fun a i c => t2 a i (by omega)
  have mt := D.mt I (N := T) (fun a i _ c => oT a i c) (ln := 99) ((oT _ _ (by omega)).trans I.2.2.2.2.2.2.2.2.2) (by omega)
  have hop := y_op01 (y_hv wh li (M 154 20) (M 162) (M (M ga 5)) (M (M ga 6)) (M (M ga 7)) (M (M ga 8)) 99 st)
  obtain ⟨U, u1, u2⟩ := Mo_isGood_ok (fu := fu) hf mt t3 (y_all (M 154 20)) hop.1 hop.2
  refine ⟨U, ?_, oT.trans u2.off⟩
  unfold Mo_isGoodGift
  rw [l4, if_pos rfl, t1, bd1_some, Mo_allLives_ok I (oT _ _ (by omega)), bd1_some, u1, bd2_some]; rfl
theorem c_good (hf : 400 ≤ fu) (I : y_inv L M top) (g : Int) : y_same L M (fun M => Lx_good fu L M 1 g) (fun M => Mo_good fu L M 154 g) := by
  have l1 : L 1 = (12, 0) := I.lay 1 (by decide)
  have l4 : L 154 = (13, 0) := I.lay 154 (by decide)
  have l42 : L 142 = (9, 0) := I.lay 142 (by decide)
  by_cases h : M 154 19 = 1 ∧ 0 ≤ g ∧ g < M 162 76
  · obtain ⟨ga, st, pt, tl, wh, li, e, D⟩ := y_gift2 I h
    obtain ⟨N1, N2, a1, a2, a3, a4, a5⟩ := cl_good (fu := fu) hf I D (y_off.refl M)
    have o2 := a5.trans (y_off0 N2)
    obtain ⟨T, t1, t2⟩ := mo_good (fu := fu) hf I D o2
    refine y_same.mk (M1 := N2) (M2 := T) (r := if y_ind (y_gg M g ga st wh li) = 0 then 0 else 1) t2 ?_ ?_
    · show Lx_good fu L M 1 g = _
      unfold Lx_good
      rw [l1, if_pos rfl, a1, bd2_some, if_neg (by decide), a2, l42, if_pos rfl, a3, bd1_some, a4, bd2_some]
      split <;> rfl
    · show Mo_good fu L N2 154 g = _
      unfold Mo_good
      rw [l4, if_pos rfl, lt1_def, y_isG I o2, if_pos h, bd1_some, if_neg (by decide), t1, bd2_some]
      split <;> rfl
  · refine y_same.mk (M1 := M) (M2 := mu M 154 0 0) (r := -1) (y_off0 M) ?_ ?_
    · show Lx_good fu L M 1 g = _
      unfold Lx_good
      rw [l1, if_pos rfl, Lx_tryGift_n I (y_off.refl M) h, bd2_some, if_pos rfl]
    · show Mo_good fu L M 154 g = _
      unfold Mo_good
      rw [l4, if_pos rfl, lt1_def, y_isG I (y_off0 M), if_neg h, bd1_some, if_pos rfl]
end

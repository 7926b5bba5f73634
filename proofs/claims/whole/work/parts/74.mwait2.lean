/-! ===== pure: part 74: a gift as things are: the model's answers ===== -/
theorem y_icl_01 (wh li : Int) (w : Int → Int) (p : Int) : y_icl wh li w p = 0 ∨ y_icl wh li w p = 1 := by
  unfold y_icl
  (repeat' split) <;> first | exact Or.inl rfl | exact Or.inr rfl
theorem y_nat_fold {w : Int → Int} {li n : Int} (hv : ∀ p, 0 ≤ p → p < n → w (26 + p) = 16777216 ∨ 0 ≤ w (26 + p) ∧ w (26 + p) ≤ 400) : ∀ (k : Nat) (i s : Int), 0 ≤ i → i + k = n → s ≤ 16777216 →
    (s = 16777216 → y_fo (fun p s => if w (50 + p) = li then max s (w (26 + p)) else s) k i s = 16777216) ∧
    (s ≤ 400 → y_fe (fun p s => if w (50 + p) = li then max s (w (26 + p)) else s) (fun p _ => if w (50 + p) = li ∧ w (26 + p) = 16777216 then some (-1) else none) id k i s = if y_fo (fun p s => if w (50 + p) = li then max s (w (26 + p)) else s) k i s = 16777216 then -1 else y_fo (fun p s => if w (50 + p) = li then max s (w (26 + p)) else s) k i s)
  | 0, i, s, _, _, _ => ⟨fun h => h, fun h => by show s = if s = 16777216 then -1 else s; rw [if_neg (by omega)]⟩
  | k + 1, i, s, h0, hN, hs => by
    have hp := hv i h0 (by omega)
    have hms : max s (w (26 + i)) ≤ 16777216 := by omega
    unfold y_fe y_fo
    by_cases c : w (50 + i) = li
    · rw [if_pos c]
      have ih := y_nat_fold (li := li) hv k (i + 1) (max s (w (26 + i))) (by omega) (by omega) hms
      refine ⟨fun h => ih.1 (by omega), fun h => ?_⟩
      by_cases c1 : w (26 + i) = 16777216
      · rw [if_pos ⟨c, c1⟩, ih.1 (by omega), if_pos rfl]; rfl
      · rw [if_neg (fun z => c1 z.2)]
        exact ih.2 (by omega)
    · rw [if_neg c, if_neg (fun z => c z.1)]
      exact y_nat_fold hv k (i + 1) s (by omega) (by omega) hs
theorem y_mem_sum {fy : Int → Int} {en n : Int} (hf : ∀ p, 0 ≤ p → p < n → -3 ≤ fy p) : ∀ (k : Nat) (i a b c d : Int), 0 ≤ i → i + k = n →
    y_fo (fun p s => if fy p = -3 then s else s + 1) k i (a + b + c + d) = y_fo (fun p s => if y_kd en (fy p) = 0 then s + 1 else s) k i a + y_fo (fun p s => if y_kd en (fy p) = 1 then s + 1 else s) k i b + y_fo (fun p s => if y_kd en (fy p) = 2 then s + 1 else s) k i c + y_fo (fun p s => if y_kd en (fy p) = 3 then s + 1 else s) k i d
  | 0, i, a, b, c, d, _, _ => rfl
  | k + 1, i, a, b, c, d, h0, hN => by
    have h := hf i h0 (by omega)
    unfold y_fo
    have hk : (fy i = -3 ∧ y_kd en (fy i) = -1) ∨ (fy i ≠ -3 ∧ (y_kd en (fy i) = 0 ∨ y_kd en (fy i) = 1 ∨ y_kd en (fy i) = 2 ∨ y_kd en (fy i) = 3)) := by
      unfold y_kd
      (repeat' split) <;> omega
    rcases hk with ⟨c1, c2⟩ | ⟨c1, c2 | c2 | c2 | c2⟩
    · simp only [c1, c2, Int.reduceEq, ↓reduceIte]
      exact y_mem_sum hf k (i + 1) a b c d (by omega) (by omega)
    · rw [if_neg c1]; simp only [c2, Int.reduceEq, ↓reduceIte]
      rw [show a + b + c + d + 1 = (a + 1) + b + c + d by omega]
      exact y_mem_sum hf k (i + 1) (a + 1) b c d (by omega) (by omega)
    · rw [if_neg c1]; simp only [c2, Int.reduceEq, ↓reduceIte]
      rw [show a + b + c + d + 1 = a + (b + 1) + c + d by omega]
      exact y_mem_sum hf k (i + 1) a (b + 1) c d (by omega) (by omega)
    · rw [if_neg c1]; simp only [c2, Int.reduceEq, ↓reduceIte]
      rw [show a + b + c + d + 1 = a + b + (c + 1) + d by omega]
      exact y_mem_sum hf k (i + 1) a b (c + 1) d (by omega) (by omega)
    · rw [if_neg c1]; simp only [c2, Int.reduceEq, ↓reduceIte]
      rw [show a + b + c + d + 1 = a + b + c + (d + 1) by omega]
      exact y_mem_sum hf k (i + 1) a b c (d + 1) (by omega) (by omega)
theorem y_mem_eq {fy : Int → Int} {en n : Int} (hn : 0 ≤ n) (hf : ∀ p, 0 ≤ p → p < n → -3 ≤ fy p) : y_mem fy n = y_ct fy en n 0 + y_ct fy en n 1 + y_ct fy en n 2 + y_ct fy en n 3 :=
  y_mem_sum hf n.toNat 0 0 0 0 0 (by omega) (by omega)
section
variable {fu : Nat} {L : zL} {N : zM} {g : Int} {S : Int → Int} {wh li lv e : Int} {K Q A F : Int → Int} {st : Int} {x : Int} {w : Int → Int}
theorem y_py_b (h : y_mg L N g S wh li lv e K Q A F st) (v : WV lv w) {p : Int} (p0 : 0 ≤ p) (p1 : p < w 1) : (y_icl wh li w p = 1 → y_yb (y_py wh li w K Q A F st p)) ∧ -3 ≤ y_py wh li w K Q A F st p ∧ y_py wh li w K Q A F st p ≤ 400 := by
  have hv := (v.2.2 p p0 p1).1
  have hy := v.2.1
  have b := y_vy_b (ln := 99) (b := w (2 + p)) (d := w (26 + p)) v (by omega) h.2.2.2.2.1.2.2.2.1 h.sk
  unfold y_py
  by_cases c : y_icl wh li w p = 1
  · rw [if_pos c]
    unfold y_yb at *
    exact ⟨fun _ => b, by omega, by omega⟩
  · rw [if_neg c]
    exact ⟨fun z => absurd z c, by omega, by omega⟩
theorem Mo_convenience_ok (hf : 400 ≤ fu) (h : y_mg L N g S wh li lv e K Q A F st) (r : y_mr L N x lv w) : ∃ T, Mo_convenience fu L N 154 x g = some (T, y_cv wh (y_py wh li w K Q A F st) (w 1)) ∧ y_off N T := by
  have v := r.2.2.2.1
  have hw := v.1
  have l4 := h.2.1.1
  have hwh := h.2.2.2.2.1.1
  obtain ⟨⟨sz, lx, hsz⟩, hx, rw0, _, r20⟩ := id r
  have g5 : (1 : Int) < sz := by omega
  have g6 : (0 : Int) ≤ 1 := by omega
  unfold Mo_convenience y_cv
  by_cases c0 : wh = 0
  · rw [if_pos c0]
    obtain ⟨f, rfl⟩ : ∃ f', fu = f' + 1 := ⟨fu - 1, by omega⟩
    refine ⟨N, ?_, y_off.refl N⟩
    show Mo_convenience_s7 _ _ _ _ _ _ _ _ _ = _
    unfold Mo_convenience_s7
    simp only [lx, g5, g6, and_self, ↓reduceIte, rw0, l4, Mo_to_ok h, c0, bd1_some, Int.lt_irrefl, ite_self]
  · rw [if_neg c0]
    have hp0 : 0 < wh := by omega
    obtain ⟨py, hpy⟩ : ∃ py, py = y_py wh li w K Q A F st := ⟨_, rfl⟩
    rw [← hpy]
    refine y_lpm0 (F := fun n M s i => Mo_convenience_l7 fu L n M 154 x g (if s = -1 then 1048576 else s) i) (fin := id) (N := w 1) (fun T => y_off N T) (fun _ s => -1 ≤ s ∧ s ≤ 400) (fun n M s i hJ h0 hN hI => ?_) (fun n M s i hJ hN hI => ?_) (w 1).toNat fu N (-1) 0 (y_off.refl N) (by omega) (by omega) (by omega) (by omega)
    · have hM := h.off hJ
      have rM := r.off hJ
      have ew : w32 (i + 1) = i + 1 := w32_id (by omega)
      have b := y_py_b hM v h0 hN
      rw [← hpy] at b
      by_cases c : y_icl wh li w i = 1
      · obtain ⟨T, t1, t2⟩ := Mo_vestYear_ok (fu := fu) hf hM rM h0 hN
        have hpi : py i = y_vy w K Q A F 99 (w (2 + i)) (w (26 + i)) st := by rw [hpy]; unfold y_py; rw [if_pos c]
        rw [← hpi] at t1
        refine ⟨T, ?_, hJ.trans t2, by split <;> omega⟩
        show Mo_convenience_s7 _ _ _ _ _ _ _ _ _ = _
        unfold Mo_convenience_s7
        simp only [lx, g5, g6, and_self, ↓reduceIte, rM.2.2.1, hN, l4, Mo_to_ok hM, hp0, Mo_isOfClass_ok hM rM h0 hN, c, bd1_some, Int.reduceEq, ↓bd2_eq t1, ↓lt1_def, ew]
        have b1 := b.1 c
        have e1 : min (if s = -1 then 1048576 else s) (y_mv (py i)) = if (if 0 ≤ py i ∧ (s = -1 ∨ py i < s) then py i else s) = -1 then 1048576 else (if 0 ≤ py i ∧ (s = -1 ∨ py i < s) then py i else s) := by
          unfold y_yb at b1
          unfold y_mv
          (repeat' split) <;> omega
        rw [e1]
      · have c' : y_icl wh li w i = 0 := (y_icl_01 wh li w i).resolve_right c
        have hpi : py i = -3 := by rw [hpy]; unfold y_py; rw [if_neg c]
        refine ⟨M, ?_, hJ, by split <;> omega⟩
        show Mo_convenience_s7 _ _ _ _ _ _ _ _ _ = _
        unfold Mo_convenience_s7
        simp only [lx, g5, g6, and_self, ↓reduceIte, rM.2.2.1, hN, l4, Mo_to_ok hM, hp0, Mo_isOfClass_ok hM rM h0 hN, c', bd1_some, ↓lt1_def, ew]
        rw [if_neg (show ¬ (0 ≤ py i ∧ (s = -1 ∨ py i < s)) by omega)]
    · have rM := r.off hJ
      refine ⟨M, ?_, hJ⟩
      show Mo_convenience_s7 _ _ _ _ _ _ _ _ _ = _
      unfold Mo_convenience_s7
      have hn : ¬ i < w 1 := by omega
      simp only [lx, g5, g6, and_self, ↓reduceIte, rM.2.2.1, hn]
      by_cases c : s = -1
      · rw [if_pos c, if_neg (by omega), c]; rfl
      · rw [if_neg c, if_pos (by omega)]; rfl
theorem Mo_isMember_ok (hf : 400 ≤ fu) (h : y_mg L N g S wh li lv e K Q A F st) (r : y_mr L N x lv w) {p : Int} (p0 : 0 ≤ p) (p1 : p < w 1) : ∃ T, Mo_isMember fu L N 154 x g p = some (T, if y_icl wh li w p = 1 ∧ ¬ (y_cv wh (y_py wh li w K Q A F st) (w 1) ≠ -1 ∧ y_cv wh (y_py wh li w K Q A F st) (w 1) < w (2 + p)) then 1 else 0) ∧ y_off N T := by
  obtain ⟨T, t1, t2⟩ := Mo_convenience_ok (fu := fu) hf h r
  have hM := h.off t2
  have rM := r.off t2
  have l4 := h.2.1.1
  have v := r.2.2.2.1
  have hw := v.1
  obtain ⟨⟨sz, lx, hsz⟩, hx, rw0, _, r20⟩ := id rM
  have e2 : w32 (2 + p) = 2 + p := w32_id (by omega)
  have g1 : 0 ≤ 2 + p := by omega
  have g2 : 2 + p < sz := by omega
  refine ⟨T, ?_, t2⟩
  unfold Mo_isMember
  generalize y_cv wh (y_py wh li w K Q A F st) (w 1) = cv at t1 ⊢
  simp only [l4, ↓reduceIte, ↓bd2_eq t1, Mo_isOfClass_ok hM rM p0 p1, bd1_some, lx, e2, g1, g2, and_self, rw0]
  rcases y_icl_01 wh li w p with c | c
  · rw [c, if_pos rfl, if_neg (by omega)]
  · rw [c, if_neg (by decide)]
    (repeat' split) <;> first | rfl | omega
theorem Mo_vestsIn_ok (hf : 400 ≤ fu) (h : y_mg L N g S wh li lv e K Q A F st) (r : y_mr L N x lv w) {p : Int} (p0 : 0 ≤ p) (p1 : p < w 1) : ∃ T, Mo_vestsIn fu L N 154 x g p = some (T, y_fy w (y_cv wh (y_py wh li w K Q A F st) (w 1)) (y_py wh li w K Q A F st) p) ∧ y_off N T := by
  obtain ⟨T, t1, t2⟩ := Mo_isMember_ok (fu := fu) hf h r p0 p1
  have hM := h.off t2
  have rM := r.off t2
  have l4 := h.2.1.1
  have v := r.2.2.2.1
  have b := y_py_b h v p0 p1
  obtain ⟨T', t3, t4⟩ := Mo_vestYear_ok (fu := fu) hf hM rM p0 p1
  generalize y_cv wh (y_py wh li w K Q A F st) (w 1) = cv at t1 ⊢
  unfold Mo_vestsIn y_fy
  rw [l4, if_pos rfl, t1, bd2_some]
  by_cases c : y_icl wh li w p = 1
  · have hpi : y_py wh li w K Q A F st p = y_vy w K Q A F 99 (w (2 + p)) (w (26 + p)) st := by unfold y_py; rw [if_pos c]
    rw [← hpi] at t3
    by_cases c1 : cv ≠ -1 ∧ cv < w (2 + p)
    · rw [if_neg (show ¬ (y_icl wh li w p = 1 ∧ ¬ (cv ≠ -1 ∧ cv < w (2 + p))) from fun z => z.2 c1), if_pos rfl, if_pos c1]; exact ⟨T, rfl, t2⟩
    · rw [if_pos (show (y_icl wh li w p = 1 ∧ ¬ (cv ≠ -1 ∧ cv < w (2 + p))) from ⟨c, c1⟩), if_neg (by decide), t3, bd2_some, if_neg c1]
      have b1 := b.1 c
      generalize y_py wh li w K Q A F st p = z at b1
      refine ⟨T', ?_, t2.trans t4⟩
      unfold y_yb at b1
      unfold y_mv
      by_cases d1 : z = -1
      · simp only [d1, ↓reduceIte]
      · by_cases d2 : z = -2
        · simp only [d2, Int.reduceEq, Int.reduceNeg, ↓reduceIte]
        · rw [if_neg d1, if_neg d2, if_neg (by omega), if_neg (by omega)]
  · have hpi : y_py wh li w K Q A F st p = -3 := by unfold y_py; rw [if_neg c]
    rw [if_neg (show ¬ (y_icl wh li w p = 1 ∧ ¬ (cv ≠ -1 ∧ cv < w (2 + p))) from fun z => c z.1), if_pos rfl, hpi, ite_self]
    exact ⟨T, rfl, t2⟩
theorem Mo_nature_ok (hf : 400 ≤ fu) (h : y_mg L N g S wh li lv e K Q A F st) (r : y_mr L N x lv w) : Mo_nature fu L N 154 x g = some (y_nat wh li w) := by
  have v := r.2.2.2.1
  have hw := v.1
  have hy := v.2.1
  have l4 := h.2.1.1
  have hwh := h.2.2.2.2.1.1
  have hli := h.2.2.2.2.1.2.1
  obtain ⟨⟨sz, lx, hsz⟩, hx, rw0, _, r20⟩ := id r
  have g5 : (1 : Int) < sz := by omega
  have g6 : (0 : Int) ≤ 1 := by omega
  have el : w32 (26 + li) = 26 + li := w32_id (by omega)
  have g1 : 0 ≤ 26 + li := by omega
  have g2 : 26 + li < sz := by omega
  have hvl := (v.2.2 li hli.1 (by omega)).2.1
  have hb70 : ∀ z, Mo_nature_b70 fu L N 154 g z = some (if wh = 0 then -1 else if z = 16777216 then -1 else z) := fun z => by
    unfold Mo_nature_b70
    rw [l4, if_pos rfl, Mo_to_ok h, bd1_some]
    (repeat' split) <;> rfl
  unfold Mo_nature y_nat
  simp only [l4, Mo_toldLife_ok h, bd1_some, lx, el, g1, g2, and_self, ↓reduceIte, ↓lt1_def, rw0]
  by_cases c2 : wh = 2
  · have e1 := y_lp0 (F := fun n s i => Mo_nature_l17 fu L n N 154 x g li s i) (fin := fun z => if wh = 0 then -1 else if z = 16777216 then -1 else z) (st := fun p s => if w (50 + p) = li then max s (w (26 + p)) else s) (N := w 1) (fun _ _ => True) (fun n s i h0 hN _ => by
      refine ⟨?_, trivial⟩
      show Mo_nature_s17 _ _ _ _ _ _ _ _ _ _ = _
      unfold Mo_nature_s17
      have ew : w32 (i + 1) = i + 1 := w32_id (by omega)
      have e50 : w32 (50 + i) = 50 + i := w32_id (by omega)
      have e26 : w32 (26 + i) = 26 + i := w32_id (by omega)
      have q1 : 0 ≤ 50 + i := by omega
      have q2 : 50 + i < sz := by omega
      have q3 : 0 ≤ 26 + i := by omega
      have q4 : 26 + i < sz := by omega
      simp only [lx, g5, g6, and_self, ↓reduceIte, rw0, hN, l4, Mo_to_ok h, bd1_some, c2, e50, e26, q1, q2, q3, q4, ↓lt1_def, ew]
      (repeat' split) <;> rfl) (fun n s i hN _ => by
      show Mo_nature_s17 _ _ _ _ _ _ _ _ _ _ = _
      unfold Mo_nature_s17
      have hn : ¬ i < w 1 := by omega
      simp only [lx, g5, g6, and_self, ↓reduceIte, rw0, hn, hb70]) (w 1).toNat fu (w (26 + li)) 0 (by omega) (by omega) (by omega) trivial
    refine e1.trans ?_
    have ff := y_nat_fold (w := w) (li := li) (n := w 1) (fun p q0 q1 => by have := (v.2.2 p q0 q1).2.1; omega) (w 1).toNat 0 (w (26 + li)) (by omega) (by omega) (by omega)
    rw [if_neg (show ¬ wh = 0 by omega)]
    by_cases c1 : w (26 + li) = 16777216
    · rw [if_pos (ff.1 c1), if_pos (Or.inr c1)]
    · rw [if_neg (show ¬ (wh = 0 ∨ w (26 + li) = 16777216) by omega), if_pos c2, ff.2 (by omega)]
  · obtain ⟨f, rfl⟩ : ∃ f', fu = f' + 1 := ⟨fu - 1, by omega⟩
    show Mo_nature_s17 _ _ _ _ _ _ _ _ _ _ = _
    unfold Mo_nature_s17
    simp only [lx, g5, g6, and_self, ↓reduceIte, rw0, l4, Mo_to_ok h, bd1_some, c2, hb70, ite_self]
    (repeat' split) <;> first | rfl | omega
theorem Mo_isClosed_ok (hf : 400 ≤ fu) (h : y_mg L N g S wh li lv e K Q A F st) (r : y_mr L N x lv w) : ∃ T, Mo_isClosed fu L N 154 x g = some (T, y_cmp (if wh = 0 then 1 else 0) (y_cv wh (y_py wh li w K Q A F st) (w 1)) (y_nat wh li w)) ∧ y_off N T := by
  obtain ⟨T, t1, t2⟩ := Mo_convenience_ok (fu := fu) hf h r
  have hM := h.off t2
  have rM := r.off t2
  have l4 := h.2.1.1
  unfold Mo_isClosed y_cmp
  rw [l4, if_pos rfl, Mo_to_ok h, bd1_some]
  by_cases c0 : wh = 0
  · simp only [c0, ↓reduceIte, Int.reduceEq, false_and]
    exact ⟨N, rfl, y_off.refl N⟩
  · simp only [c0, ↓reduceIte, ↓bd2_eq t1, Mo_nature_ok hf hM rM, bd1_some, true_and]
    refine ⟨T, ?_, t2⟩
    (repeat' split) <;> first | rfl | omega
end

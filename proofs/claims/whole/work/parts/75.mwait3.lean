/-! ===== pure: part 75: a gift as things are: counts and states of the model ===== -/
section
variable {fu : Nat} {L : zL} {N : zM} {g : Int} {S : Int → Int} {wh li lv e : Int} {K Q A F : Int → Int} {st : Int} {x : Int} {w : Int → Int} {per : Int}
theorem y_fy_b (h : y_mg L N g S wh li lv e K Q A F st) (v : WV lv w) (cv : Int) {p : Int} (p0 : 0 ≤ p) (p1 : p < w 1) : -3 ≤ y_fy w cv (y_py wh li w K Q A F st) p := by
  have := y_py_b h v p0 p1
  unfold y_fy
  split <;> omega
theorem Mo_end_x (hf : 400 ≤ fu) (h : y_mg L N g S wh li lv e K Q A F st) (r : y_mr L N x lv w) (hp : N 162 74 = per ∧ 0 ≤ per ∧ per ≤ 99) : Mo_end1 fu L N 154 x = some (y_end lv per w) := by
  obtain ⟨⟨sz, lx, hsz⟩, hx, rw0, v, r20⟩ := r
  have e := Mr_end (fu := fu) (N := N) (x := x) hf h.2.1.1 r20 lx hsz (by rw [rw0]; exact v) h.2.1.2.1 h.2.1.2.2.1 (by omega)
  rw [rw0, hp.1] at e
  exact e
theorem Mo_counted_ok (hf : 400 ≤ fu) (h : y_mg L N g S wh li lv e K Q A F st) (r : y_mr L N x lv w) (hp : N 162 74 = per ∧ 0 ≤ per ∧ per ≤ 99) (what : Int) :
    ∃ T, Mo_counted fu L N 154 x g what = some (T, y_ct (y_fy w (y_cv wh (y_py wh li w K Q A F st) (w 1)) (y_py wh li w K Q A F st)) (y_end lv per w) (w 1) what) ∧ y_off N T := by
  have v := r.2.2.2.1
  have hw := v.1
  have l4 := h.2.1.1
  obtain ⟨⟨sz, lx, hsz⟩, hx, rw0, _, r20⟩ := id r
  have g5 : (1 : Int) < sz := by omega
  have g6 : (0 : Int) ≤ 1 := by omega
  obtain ⟨en, hen⟩ : ∃ en, en = y_end lv per w := ⟨_, rfl⟩
  obtain ⟨fy, hfy⟩ : ∃ fy, fy = y_fy w (y_cv wh (y_py wh li w K Q A F st) (w 1)) (y_py wh li w K Q A F st) := ⟨_, rfl⟩
  unfold Mo_counted
  rw [l4, if_pos rfl, Mo_end_x hf h r hp, bd1_some, ← hen, ← hfy]
  refine y_lpm0 (F := fun n M s i => Mo_counted_l13 fu L n M 154 x g what s en i) (fin := id) (N := w 1) (fun T => y_off N T) (fun i s => 0 ≤ s ∧ s ≤ i) (fun n M s i hJ h0 hN hI => ?_) (fun n M s i hJ hN hI => ?_) (w 1).toNat fu N 0 0 (y_off.refl N) (by omega) (by omega) (by omega) (by omega)
  · have hM := h.off hJ
    have rM := r.off hJ
    have ew : w32 (i + 1) = i + 1 := w32_id (by omega)
    have es : w32 (s + 1) = s + 1 := w32_id (by omega)
    have e0 : w32 (s + 0) = s := by rw [w32_id (by omega)]; omega
    obtain ⟨T, t1, t2⟩ := Mo_vestsIn_ok (fu := fu) hf hM rM h0 hN
    have b := y_fy_b h v (y_cv wh (y_py wh li w K Q A F st) (w 1)) h0 hN
    rw [← hfy] at t1 b
    refine ⟨T, ?_, hJ.trans t2, by split <;> omega⟩
    show Mo_counted_s13 _ _ _ _ _ _ _ _ _ _ _ = _
    unfold Mo_counted_s13 Mo_counted_b81 y_kd
    simp only [lx, g5, g6, and_self, ↓reduceIte, rM.2.2.1, hN, l4, ↓bd2_eq t1, ↓lt1_def, ew, es, e0]
    by_cases c3 : fy i = -3
    · simp only [c3, Int.reduceEq, Int.reduceLE, Int.reduceNeg, ↓reduceIte]
      split <;> rfl
    · by_cases c2 : fy i = -2
      · simp only [c2, Int.reduceEq, Int.reduceLE, Int.reduceNeg, ↓reduceIte]
        split <;> rfl
      · by_cases c1 : fy i = -1
        · simp only [c1, Int.reduceEq, Int.reduceLE, Int.reduceNeg, ↓reduceIte]
          split <;> rfl
        · have c0 : 0 ≤ fy i := by omega
          simp only [c3, c2, c1, c0, ↓reduceIte]
          (repeat' split) <;> first | rfl | omega
  · have rM := r.off hJ
    refine ⟨M, ?_, hJ⟩
    show Mo_counted_s13 _ _ _ _ _ _ _ _ _ _ _ = _
    unfold Mo_counted_s13
    have hn : ¬ i < w 1 := by omega
    simp only [lx, g5, g6, and_self, ↓reduceIte, rM.2.2.1, hn]; rfl
theorem Mo_stateOf_ok (hf : 400 ≤ fu) (h : y_mg L N g S wh li lv e K Q A F st) (r : y_mr L N x lv w) (hp : N 162 74 = per ∧ 0 ≤ per ∧ per ≤ 99) :
    ∃ T, Mo_stateOf fu L N 154 x g = some (T, y_std (y_fy w (y_cv wh (y_py wh li w K Q A F st) (w 1)) (y_py wh li w K Q A F st)) (w 1) (w 0) (y_end lv per w) (y_cmp (if wh = 0 then 1 else 0) (y_cv wh (y_py wh li w K Q A F st) (w 1)) (y_nat wh li w))) ∧ y_off N T := by
  have v := r.2.2.2.1
  have hw := v.1
  have l4 := h.2.1.1
  obtain ⟨⟨sz, lx, hsz⟩, hx, rw0, _, r20⟩ := id r
  have g5 : (0 : Int) < sz := by omega
  have g6 : (0 : Int) ≤ 0 := by omega
  have hms := y_mem_eq (fy := y_fy w (y_cv wh (y_py wh li w K Q A F st) (w 1)) (y_py wh li w K Q A F st)) (en := y_end lv per w) (n := w 1) (by omega) (fun p p0 p1 => y_fy_b h v _ p0 p1)
  have hP : ∀ {T : zM}, y_off N T → T 162 74 = per ∧ 0 ≤ per ∧ per ≤ 99 := fun o => ⟨(o _ _ (by omega)).trans hp.1, hp.2⟩
  have ctb := fun what => y_ct_b (y_fy w (y_cv wh (y_py wh li w K Q A F st) (w 1)) (y_py wh li w K Q A F st)) (en := y_end lv per w) (n := w 1) (what := what) (by omega)
  have CT : ∀ {T : zM}, y_off N T → ∀ what, ∃ U, Mo_counted fu L T 154 x g what = some (U, y_ct (y_fy w (y_cv wh (y_py wh li w K Q A F st) (w 1)) (y_py wh li w K Q A F st)) (y_end lv per w) (w 1) what) ∧ y_off N U := fun o what => by
    obtain ⟨U, u1, u2⟩ := Mo_counted_ok (fu := fu) hf (h.off o) (r.off o) (hP o) what
    exact ⟨U, u1, o.trans u2⟩
  have CL : ∀ {T : zM}, y_off N T → ∃ U, Mo_isClosed fu L T 154 x g = some (U, y_cmp (if wh = 0 then 1 else 0) (y_cv wh (y_py wh li w K Q A F st) (w 1)) (y_nat wh li w)) ∧ y_off N U := fun o => by
    obtain ⟨U, u1, u2⟩ := Mo_isClosed_ok (fu := fu) hf (h.off o) (r.off o)
    exact ⟨U, u1, o.trans u2⟩
  obtain ⟨cp, hcp⟩ : ∃ cp, cp = y_cmp (if wh = 0 then 1 else 0) (y_cv wh (y_py wh li w K Q A F st) (w 1)) (y_nat wh li w) := ⟨_, rfl⟩
  rw [← hcp]
  rw [← hcp] at CL
  obtain ⟨fy, hfy⟩ : ∃ fy, fy = y_fy w (y_cv wh (y_py wh li w K Q A F st) (w 1)) (y_py wh li w K Q A F st) := ⟨_, rfl⟩
  rw [← hfy] at hms ctb CT ⊢
  obtain ⟨en, hen⟩ : ∃ en, en = y_end lv per w := ⟨_, rfl⟩
  rw [← hen] at hms ctb CT ⊢
  have e1 := Mo_end_x hf h r hp
  rw [← hen] at e1
  have c0 := ctb 0
  have c1 := ctb 1
  have c2 := ctb 2
  have c3 := ctb 3
  -- the tail
  have tail : ∀ {T : zM}, y_off N T → ¬ 0 < y_ct fy en (w 1) 1 → ∃ U, Mo_stateOf_b40 fu L T 154 x g = some (U, if cp = 0 ∨ 0 < y_ct fy en (w 1) 3 then 0 else if y_ct fy en (w 1) 2 = y_mem fy (w 1) then 3 else 1) ∧ y_off N U := fun {T} o hn1 => by
    obtain ⟨U, u1, u2⟩ := CL o
    unfold Mo_stateOf_b40 Mo_stateOf_b64
    rw [l4, if_pos rfl, u1, bd2_some]
    by_cases d : cp = 0
    · rw [if_pos d, if_pos rfl, if_pos (Or.inl d)]; exact ⟨U, rfl, u2⟩
    · obtain ⟨V, v1, v2⟩ := CT u2 3
      rw [if_neg d, v1, bd2_some]
      by_cases d3 : y_ct fy en (w 1) 3 = 0
      · obtain ⟨X, x1, x2⟩ := CT v2 0
        rw [if_pos d3, if_neg (show ¬ (1 : Int) = 0 by decide), if_pos rfl, x1, bd2_some, if_neg (show ¬ (cp = 0 ∨ 0 < y_ct fy en (w 1) 3) by omega)]
        refine ⟨X, ?_, x2⟩
        (repeat' split) <;> first | rfl | omega
      · rw [if_neg d3, if_pos rfl, if_pos (show cp = 0 ∨ 0 < y_ct fy en (w 1) 3 by omega)]; exact ⟨V, rfl, v2⟩
  obtain ⟨U, u1, u2⟩ := CT (y_off.refl N) 1
  unfold Mo_stateOf y_std
  rw [l4, if_pos rfl, e1, bd1_some, u1, bd2_some]
  by_cases d1 : 0 < y_ct fy en (w 1) 1
  · rw [if_pos d1, if_pos (Or.inl d1)]; exact ⟨U, rfl, u2⟩
  · rw [if_neg d1]
    by_cases d2 : en = -1
    · rw [if_pos d2, if_neg (show ¬ (0 < y_ct fy en (w 1) 1 ∨ en ≠ -1 ∧ en < w 0 ∧ 0 < y_ct fy en (w 1) 3) by omega)]
      exact tail u2 d1
    · have rU := r.off u2
      simp only [d2, lx, g5, g6, and_self, ↓reduceIte, rU.2.2.1]
      by_cases d3 : en < w 0
      · obtain ⟨V, v1, v2⟩ := CT u2 3
        rw [if_pos d3, v1, bd2_some]
        by_cases d4 : 0 < y_ct fy en (w 1) 3
        · rw [if_pos d4, if_pos (show (0 < y_ct fy en (w 1) 1 ∨ en ≠ -1 ∧ en < w 0 ∧ 0 < y_ct fy en (w 1) 3) by omega)]; exact ⟨V, rfl, v2⟩
        · rw [if_neg d4, if_neg (show ¬ (0 < y_ct fy en (w 1) 1 ∨ en ≠ -1 ∧ en < w 0 ∧ 0 < y_ct fy en (w 1) 3) by omega)]
          exact tail v2 d1
      · rw [if_neg d3, if_neg (show ¬ (0 < y_ct fy en (w 1) 1 ∨ en ≠ -1 ∧ en < w 0 ∧ 0 < y_ct fy en (w 1) 3) by omega)]
        exact tail u2 d1
theorem Mo_member_l (hf : 400 ≤ fu) (h : y_mg L N g S wh li lv e K Q A F st) (r : y_mr L N 162 lv w) (k : Int) :
    ∃ T, Mo_member_l20 fu L fu N 154 g k 0 0 = some (T, if k = -1 then y_mem (y_fy w (y_cv wh (y_py wh li w K Q A F st) (w 1)) (y_py wh li w K Q A F st)) (w 1) else y_mat (y_fy w (y_cv wh (y_py wh li w K Q A F st) (w 1)) (y_py wh li w K Q A F st)) (w 1) k) ∧ y_off N T := by
  have v := r.2.2.2.1
  have hw := v.1
  have l4 := h.2.1.1
  have l62 := h.2.1.2.1
  have p18 := h.2.1.2.2.1
  have g5 : (1 : Int) < 2597 := by omega
  have g6 : (0 : Int) ≤ 1 := by omega
  obtain ⟨cv, hcv⟩ : ∃ cv, cv = y_cv wh (y_py wh li w K Q A F st) (w 1) := ⟨_, rfl⟩
  obtain ⟨fy, hfy⟩ : ∃ fy, fy = y_fy w cv (y_py wh li w K Q A F st) := ⟨_, rfl⟩
  rw [← hcv, ← hfy]
  have IM : ∀ {M : zM}, y_off N M → ∀ i, 0 ≤ i → i < w 1 → ∃ T, Mo_isMember fu L M 154 162 g i = some (T, if fy i = -3 then 0 else 1) ∧ y_off N T := fun {M} o i i0 i1 => by
    obtain ⟨T, t1, t2⟩ := Mo_isMember_ok (fu := fu) hf (h.off o) (r.off o) i0 i1
    refine ⟨T, ?_, o.trans t2⟩
    rw [t1, ← hcv, hfy]
    have b := y_py_b h v i0 i1
    have b1 := b.1
    unfold y_fy
    by_cases c : y_icl wh li w i = 1
    · have b2 := b1 c
      unfold y_yb at b2
      by_cases c1 : cv ≠ -1 ∧ cv < w (2 + i)
      · rw [if_neg (fun z => z.2 c1), if_pos c1, if_pos rfl]
      · rw [if_pos ⟨c, c1⟩, if_neg c1, if_neg (by omega)]
    · have hpi : y_py wh li w K Q A F st i = -3 := by unfold y_py; rw [if_neg c]
      rw [if_neg (fun z => c z.1), hpi, ite_self, if_pos rfl]
  by_cases hk : k = -1
  · rw [if_pos hk]
    refine y_lpm0 (F := fun n M s i => Mo_member_l20 fu L n M 154 g k s i) (fin := id) (N := w 1) (fun T => y_off N T) (fun i s => 0 ≤ s ∧ s ≤ i) (fun n M s i hJ h0 hN hI => ?_) (fun n M s i hJ hN hI => ?_) (w 1).toNat fu N 0 0 (y_off.refl N) (by omega) (by omega) (by omega) (by omega)
    · have rM := r.off hJ
      have ew : w32 (i + 1) = i + 1 := w32_id (by omega)
      have es : w32 (s + 1) = s + 1 := w32_id (by omega)
      obtain ⟨T, t1, t2⟩ := IM hJ i h0 hN
      have q18 : M 154 18 = 162 := (hJ _ _ (by omega)).trans p18
      refine ⟨T, ?_, t2, by split <;> omega⟩
      show Mo_member_s20 _ _ _ _ _ _ _ _ _ = _
      unfold Mo_member_s20
      have hs : ¬ s = k := by omega
      simp only [l4, q18, l62, g5, g6, and_self, ↓reduceIte, rM.2.2.1, hN, ↓bd2_eq t1, ↓lt1_def, ew, es, hs]
      by_cases c : fy i = -3
      · rw [if_pos c, if_pos rfl, if_pos c]
      · rw [if_neg c, if_neg (by decide), if_neg c]
    · have rM := r.off hJ
      have q18 : M 154 18 = 162 := (hJ _ _ (by omega)).trans p18
      refine ⟨M, ?_, hJ⟩
      show Mo_member_s20 _ _ _ _ _ _ _ _ _ = _
      unfold Mo_member_s20
      have hn : ¬ i < w 1 := by omega
      simp only [l4, q18, l62, g5, g6, and_self, ↓reduceIte, rM.2.2.1, hn, hk]; rfl
  · rw [if_neg hk]
    refine y_lpm (F := fun n M s i => Mo_member_l20 fu L n M 154 g k s i) (N := w 1) (fun T => y_off N T) (fun i s => 0 ≤ s ∧ s ≤ i) (fun n M s i hJ h0 hN hI => ?_) (fun n M s i hJ hN hI => ?_) (w 1).toNat fu N 0 0 (y_off.refl N) (by omega) (by omega) (by omega) (by omega)
    · have rM := r.off hJ
      have ew : w32 (i + 1) = i + 1 := w32_id (by omega)
      have es : w32 (s + 1) = s + 1 := w32_id (by omega)
      obtain ⟨T, t1, t2⟩ := IM hJ i h0 hN
      have q18 : M 154 18 = 162 := (hJ _ _ (by omega)).trans p18
      show (∃ r M', _ ∧ Mo_member_s20 _ _ _ _ _ _ _ _ _ = _ ∧ _) ∨ (∃ M', _ ∧ Mo_member_s20 _ _ _ _ _ _ _ _ _ = _ ∧ _)
      unfold Mo_member_s20
      simp only [l4, q18, l62, g5, g6, and_self, ↓reduceIte, rM.2.2.1, hN, ↓bd2_eq t1, ↓lt1_def, ew, es]
      by_cases c : fy i = -3
      · refine Or.inr ⟨T, by rw [if_neg (fun z => z.1 c)], ?_, t2, ?_⟩
        · rw [if_pos c, if_pos rfl, if_pos c]
        · rw [if_pos c]; omega
      · by_cases c1 : s = k
        · refine Or.inl ⟨i, T, by rw [if_pos ⟨c, c1⟩], ?_, t2⟩
          rw [if_neg c, if_neg (by decide), if_pos c1]
        · refine Or.inr ⟨T, by rw [if_neg (fun z => c1 z.2)], ?_, t2, ?_⟩
          · rw [if_neg c, if_neg (by decide), if_neg c1, if_neg c]
          · rw [if_neg c]; omega
    · have rM := r.off hJ
      have q18 : M 154 18 = 162 := (hJ _ _ (by omega)).trans p18
      refine ⟨M, ?_, hJ⟩
      show Mo_member_s20 _ _ _ _ _ _ _ _ _ = _
      unfold Mo_member_s20
      have hn : ¬ i < w 1 := by omega
      simp only [l4, q18, l62, g5, g6, and_self, ↓reduceIte, rM.2.2.1, hn, hk]
theorem Mo_share_l (hf : 400 ≤ fu) (h : y_mg L N g S wh li lv e K Q A F st) (r : y_mr L N 162 lv w) {p am pa : Int} (p0 : 0 ≤ p) (p1 : p < w 1) (hpa : pa ≠ 0) :
    ∃ T, Mo_share_l101 fu L fu N 154 g p am pa 0 0 = some (T, y_dv am pa (y_ahd (y_fy w (y_cv wh (y_py wh li w K Q A F st) (w 1)) (y_py wh li w K Q A F st)) p)) ∧ y_off N T := by
  have v := r.2.2.2.1
  have hw := v.1
  have l4 := h.2.1.1
  have p18 := h.2.1.2.2.1
  obtain ⟨fy, hfy⟩ : ∃ fy, fy = y_fy w (y_cv wh (y_py wh li w K Q A F st) (w 1)) (y_py wh li w K Q A F st) := ⟨_, rfl⟩
  rw [← hfy]
  refine y_lpm0 (F := fun n M s i => Mo_share_l101 fu L n M 154 g p am pa s i) (fin := fun s => y_dv am pa s) (N := p) (fun T => y_off N T) (fun i s => 0 ≤ s ∧ s ≤ i) (fun n M s i hJ h0 hN hI => ?_) (fun n M s i hJ hN hI => ?_) p.toNat fu N 0 0 (y_off.refl N) (by omega) (by omega) (by omega) (by omega)
  · have ew : w32 (i + 1) = i + 1 := w32_id (by omega)
    have es : w32 (s + 1) = s + 1 := w32_id (by omega)
    have e0 : w32 (s + 0) = s := by rw [w32_id (by omega)]; omega
    obtain ⟨T, t1, t2⟩ := Mo_vestsIn_ok (fu := fu) hf (h.off hJ) (r.off hJ) h0 (show i < w 1 by omega)
    rw [← hfy] at t1
    have q18 : M 154 18 = 162 := (hJ _ _ (by omega)).trans p18
    refine ⟨T, ?_, hJ.trans t2, by split <;> omega⟩
    show Mo_share_s101 _ _ _ _ _ _ _ _ _ _ _ = _
    unfold Mo_share_s101
    simp only [hN, l4, q18, ↓reduceIte, ↓bd2_eq t1, ↓lt1_def, ew, es, e0]
    split <;> rfl
  · refine ⟨M, ?_, hJ⟩
    show Mo_share_s101 _ _ _ _ _ _ _ _ _ _ _ = _
    unfold Mo_share_s101 y_dv
    rw [if_neg (by omega), if_pos hpa, if_pos hpa]
    split <;> rfl
end

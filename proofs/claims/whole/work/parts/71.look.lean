/-! ===== pure: part 71: a gift as things are: the class looks ===== -/
/-- what a call may leave behind it without any later call seeing it -/
abbrev y_scr (a i : Int) : Prop := (a = 2 ∧ 4 ≤ i ∧ i ≤ 7) ∨ (a = 5 ∧ i = 4) ∨ (6 ≤ a ∧ a ≤ 8) ∨ (a = 9 ∧ 7 ≤ i) ∨ (10 ≤ a ∧ a ≤ 15) ∨ (a = 16 ∧ 3 ≤ i) ∨ (17 ≤ a ∧ a ≤ 18) ∨ (a = 133 ∧ 6 ≤ i) ∨ (134 ≤ a ∧ a ≤ 139) ∨ (a = 140 ∧ 2 ≤ i) ∨ a = 141 ∨ (a = 142 ∧ 5 ≤ i) ∨ (a = 143 ∧ 3 ≤ i) ∨ (144 ≤ a ∧ a ≤ 146) ∨ (a = 147 ∧ 3 ≤ i) ∨ (148 ≤ a ∧ a ≤ 152) ∨ (a = 154 ∧ (i = 0 ∨ (3 ≤ i ∧ i ≤ 7) ∨ i = 11 ∨ i = 13 ∨ i = 16 ∨ i = 17 ∨ (27 ≤ i ∧ i ≤ 31) ∨ (33 ≤ i ∧ i ≤ 36) ∨ (40 ≤ i ∧ i ≤ 46))) ∨ (156 ≤ a ∧ a ≤ 161) ∨ a = 169 ∨ a = 171
def y_off (M M' : zM) : Prop := ∀ a i, ¬ y_scr a i → M' a i = M a i
theorem y_off.refl (M : zM) : y_off M M := fun _ _ _ => rfl
theorem y_off.trans {M N T : zM} (h : y_off M N) (h' : y_off N T) : y_off M T := fun a i c => (h' a i c).trans (h a i c)
theorem y_off.ptr {M N : zM} (h : y_off M N) (hP : Ptr M) : Ptr N := fun q hq => by
  have h9 : ∀ q ∈ zPt, ¬ y_scr (q.1 : Int) (q.2.1 : Int) := by decide +kernel
  rw [h _ _ (h9 q hq)]
  exact hP q hq
theorem y_off.row {M N : zM} (h : y_off M N) {a : Int} (c : ∀ i, ¬ y_scr a i) : N a = M a := funext fun i => h a i (c i)
theorem y_off.mu {M N : zM} (h : y_off M N) {a i v : Int} (c : y_scr a i) : y_off M (mu N a i v) := fun b j d => by
  by_cases e : b = a ∧ j = i
  · exact absurd (e.1 ▸ e.2 ▸ c) d
  · rw [mx_ne (by omega)]; exact h b j d
theorem y_off.gc {M N : zM} (h : y_off M N) {L : zL} {g st pt tl : Int} (hg : y_gc L M g st pt tl) : y_gc L N g st pt tl := by
  have q := hg.2.2.2.1.1
  have G : ∀ j, N g j = M g j := fun j => h g j (by omega)
  unfold y_gc
  rw [G 3, G 4, G 5, G 6, G 7, G 8, G 9, G 10]
  exact hg
theorem y_off.hi {M N : zM} (h : y_off M N) {a : Int} (c : 172 ≤ a) : N a = M a := h.row fun i => by omega
/-- the two Worlds of which calls ask: the family's, the story's -/
def y_wa (a B D P : Int) : Prop := (a = 20 ∧ B = 21 ∧ D = 22 ∧ P = 23) ∨ (a = 129 ∧ B = 130 ∧ D = 131 ∧ P = 132)
theorem y_wa.lt {a B D P : Int} (h : y_wa a B D P) : a < 133 ∧ B < 133 ∧ D < 133 ∧ P < 133 := by
  unfold y_wa at h
  omega
theorem y_off.wr {M N : zM} (o : y_off M N) {a B D P : Int} (hx : y_wa a B D P) {L : zL} {lv : Int} {w : Int → Int} (h : WR L M a B D P lv w) : WR L N a B D P lv w := h.of (fun x i c => o x i (by
  have hh : (20 ≤ x ∧ x ≤ 23) ∨ (129 ≤ x ∧ x ≤ 132) := by
    unfold y_wa at hx
    omega
  omega))
/-- the PERSON is of the CLASS: 1, 0 -/
def y_icl (wh li : Int) (w : Int → Int) (p : Int) : Int := if wh = 1 then (if w (50 + p) = li then 1 else 0) else if wh = 2 then (if 0 ≤ w (50 + p) ∧ w (50 + w (50 + p)) = li then 1 else 0) else if p = li then 1 else 0
def y_py (wh li : Int) (w K N A F : Int → Int) (st p : Int) : Int := if y_icl wh li w p = 1 then y_vy w K N A F 99 (w (2 + p)) (w (26 + p)) st else -3
def y_cv (wh : Int) (py : Int → Int) (n : Int) : Int := if wh = 0 then -1 else y_fo (fun p s => if 0 ≤ py p ∧ (s = -1 ∨ py p < s) then py p else s) n.toNat 0 (-1)
def y_fy (w : Int → Int) (cv : Int) (py : Int → Int) (p : Int) : Int := if cv ≠ -1 ∧ cv < w (2 + p) then -3 else py p
def y_nat (wh li : Int) (w : Int → Int) : Int := if wh = 0 ∨ w (26 + li) = 16777216 then -1 else if wh = 2 then y_fe (fun p s => if w (50 + p) = li then max s (w (26 + p)) else s) (fun p _ => if w (50 + p) = li ∧ w (26 + p) = 16777216 then some (-1) else none) id (w 1).toNat 0 (w (26 + li)) else w (26 + li)
/-- the Waiting holds a look -/
def y_wt (M : zM) (n now en cv nat sg : Int) (fy : Int → Int) : Prop := (M 140 2 = n ∧ M 140 3 = now ∧ M 140 4 = en ∧ M 140 5 = cv ∧ M 140 6 = nat ∧ M 140 7 = sg) ∧ (∀ p, 0 ≤ p → p < n → M 141 p = fy p) ∧ (0 ≤ n ∧ n ≤ 24)
section
variable {fu : Nat} {L : zL} {M : zM} {a B D P lv : Int} {w : Int → Int}
theorem Wr_inClass (h : WR L M a B D P lv w) (v : WV lv w) {g wh li : Int} (lg : L g = (4, 0)) (g0 : M g 0 = wh) (g1 : M g 1 = li) (hl : 0 ≤ li) {p : Int} (p0 : 0 ≤ p) (p1 : p < w 1) : Wd_inClass fu L M a g p = some (y_icl wh li w p) := by
  have la := h.1.1
  have hv := (v.2.2 p p0 p1).2.2
  unfold Wd_inClass y_icl
  simp only [lg, g0, g1, la, Wr_parentOf h v, p0, p1, and_self, ↓reduceIte, bd1_some]
  by_cases c1 : wh = 1
  · rw [if_pos c1, if_pos c1]; split <;> rfl
  · rw [if_neg c1, if_neg c1]
    by_cases c2 : wh = 2
    · rw [if_pos c2, if_pos c2]
      by_cases c3 : 0 ≤ w (50 + p)
      · have c4 : w (50 + p) < w 1 := by omega
        simp only [c3, c4, and_self, true_and, ↓reduceIte]
        split <;> rfl
      · have c5 : ¬ (-1 = li) := by omega
        simp only [c3, false_and, ↓reduceIte, c5]
    · rw [if_neg c2, if_neg c2]; split <;> rfl
theorem Wr_natureOf (hf : 400 ≤ fu) (h : WR L M a B D P lv w) (v : WV lv w) {g wh li : Int} (lg : L g = (4, 0)) (g0 : M g 0 = wh) (g1 : M g 1 = li) (hwh : 0 ≤ wh ∧ wh ≤ 2) (hl : 0 ≤ li ∧ li < lv) : Wd_natureOf fu L M a g = some (y_nat wh li w) := by
  have la := h.1.1
  have e2 := h.2.1.2.1
  have hw := v.1
  have hl1 : li < w 1 := by omega
  unfold Wd_natureOf y_nat
  simp only [lg, g0, g1, la, Wr_isAlive h v, Wr_diedIn h v, hl.1, hl1, and_self, true_and, ↓reduceIte, bd1_some]
  by_cases c0 : wh = 0
  · rw [if_pos c0, if_pos (Or.inl c0)]
  · rw [if_neg c0]
    by_cases c1 : w (26 + li) = 16777216
    · rw [if_pos c1, if_neg (by decide), if_pos (Or.inr c1)]
    · rw [if_neg c1, if_pos rfl, if_neg (by omega), y_cD_d c1]
      by_cases c2 : wh = 2
      · rw [if_pos c2]
        refine y_lp (F := fun n s i => Wd_natureOf_l31 fu L n M a g s i) (N := w 1) (fun _ _ => True) (fun n s i h0 hN _ => ?_) (fun n s i hN _ => ?_) (w 1).toNat fu _ 0 (by omega) (by omega) (by omega) trivial
        · show (∃ r, _ ∧ Wd_natureOf_s31 _ _ _ _ _ _ _ _ = _) ∨ (_ ∧ Wd_natureOf_s31 _ _ _ _ _ _ _ _ = _ ∧ _)
          unfold Wd_natureOf_s31
          have ew : w32 (i + 1) = i + 1 := w32_id (by omega)
          simp only [lg, g0, g1, c2, la, e2, hN, h0, Wr_parentOf h v, Wr_isAlive h v, Wr_diedIn h v, and_self, true_and, ↓reduceIte, bd1_some, ↓lt1_def, ew]
          by_cases d1 : w (50 + i) = li
          · by_cases d2 : w (26 + i) = 16777216
            · refine Or.inl ⟨-1, by rw [if_pos ⟨d1, d2⟩], ?_⟩
              rw [if_pos d1, if_pos d2, if_neg (by decide)]
            · refine Or.inr ⟨by rw [if_neg (fun z => d2 z.2)], ?_, trivial⟩
              rw [if_pos d1, if_neg d2, if_pos rfl, y_cD_d d2, if_pos d1]
          · refine Or.inr ⟨by rw [if_neg (fun z => d1 z.1)], ?_, trivial⟩
            rw [if_neg d1, if_neg d1]
        · show Wd_natureOf_s31 _ _ _ _ _ _ _ _ = _
          unfold Wd_natureOf_s31
          simp (disch := omega) only [lg, g0, c2, la, e2, ↓reduceIte, if_neg]; rfl
      · rw [if_neg c2]
        obtain ⟨f, rfl⟩ : ∃ f', fu = f' + 1 := ⟨fu - 1, by omega⟩
        show Wd_natureOf_s31 _ _ _ _ _ _ _ _ = _
        unfold Wd_natureOf_s31
        simp only [lg, g0, c2, ↓reduceIte]
end
section
variable {fu : Nat} {L : zL} {M : zM}
theorem Wt_firstYear_ok (hf : 400 ≤ fu) (hL : Lay L) (hP : Ptr M) {n : Int} {py : Int → Int} (hn : 0 ≤ n ∧ n ≤ 24) (h2 : M 140 2 = n) (hy : ∀ p, 0 ≤ p → p < n → M 141 p = py p) : Wt_firstYear fu L M 140 = some (y_fo (fun p s => if 0 ≤ py p ∧ (s = -1 ∨ py p < s) then py p else s) n.toNat 0 (-1)) := by
  have l40 : L 140 = (10, 0) := hL 140 (by decide)
  have l41 : L 141 = (101, 24) := hL 141 (by decide)
  have p1 : M 140 1 = 141 := hP (140, 1, 141) (by decide +kernel)
  refine y_lp0 (F := fun n s i => Wt_firstYear_l4 fu L n M 140 s i) (fin := id) (N := n) (fun _ _ => True) (fun k s i h0 hN _ => ?_) (fun k s i hN _ => ?_) n.toNat fu (-1) 0 (by omega) (by omega) (by omega) trivial
  · refine ⟨?_, trivial⟩
    show Wt_firstYear_s4 _ _ _ _ _ _ _ = _
    unfold Wt_firstYear_s4
    have ew : w32 (i + 1) = i + 1 := w32_id (by omega)
    have i24 : i < 24 := by omega
    simp only [l40, h2, hN, i24, p1, l41, h0, and_self, ↓reduceIte, hy i h0 hN, ↓lt1_def, ew]
    by_cases c : py i < 0
    · rw [if_pos c, if_neg (by omega)]
    · rw [if_neg c]
      by_cases c1 : s = -1
      · rw [if_pos c1, if_pos ⟨by omega, Or.inl c1⟩]
      · rw [if_neg c1]
        by_cases c2 : py i < s
        · rw [if_pos c2, if_pos ⟨by omega, Or.inr c2⟩]
        · rw [if_neg c2, if_neg (by omega)]
  · show Wt_firstYear_s4 _ _ _ _ _ _ _ = _
    unfold Wt_firstYear_s4
    rw [l40, if_pos rfl, h2, if_neg (by omega)]; rfl
theorem Wt_close_ok (hf : 400 ≤ fu) (hL : Lay L) (hP : Ptr M) {a B D P lv : Int} {w : Int → Int} (h : WR L M a B D P lv w) (v : WV lv w) (hx : a ≠ 140 ∧ a ≠ 141 ∧ B ≠ 140 ∧ B ≠ 141 ∧ D ≠ 140 ∧ D ≠ 141 ∧ P ≠ 140 ∧ P ≠ 141) {wh : Int} {py : Int → Int} (h2 : M 140 2 = w 1) (h7 : M 140 7 = if wh = 0 then 1 else 0) (hy : ∀ p, 0 ≤ p → p < w 1 → M 141 p = py p) :
    ∃ M', Wt_close fu L M 140 a = some M' ∧ (∀ x j, x ≠ 141 → ¬ (x = 140 ∧ j = 5) → M' x j = M x j) ∧ M' 140 5 = y_cv wh py (w 1) ∧ ∀ p, 0 ≤ p → p < w 1 → M' 141 p = y_fy w (y_cv wh py (w 1)) py p := by
  have l40 : L 140 = (10, 0) := hL 140 (by decide)
  have l41 : L 141 = (101, 24) := hL 141 (by decide)
  have p1 : M 140 1 = 141 := hP (140, 1, 141) (by decide +kernel)
  have hw := v.1
  have la := h.1.1
  obtain ⟨cv, hcv⟩ : ∃ cv, cv = y_cv wh py (w 1) := ⟨_, rfl⟩
  have e1 : Wt_close fu L M 140 a = Wt_close_l21 fu L fu (mu M 140 5 cv) 140 a 0 := by
    unfold Wt_close
    rw [l40, if_pos rfl, h7, hcv]
    unfold y_cv
    by_cases c : wh = 0
    · rw [if_pos c, if_neg (by decide), lt1_def, if_pos c]
    · rw [if_neg c, if_pos rfl, Wt_firstYear_ok hf hL hP (by omega) h2 hy, bd1_some, lt1_def, if_neg c]
  rw [e1, ← hcv]
  obtain ⟨T, k, e5, ⟨hJ1, hJ2, hJ3, hJ4⟩⟩ := y_lpx (F := fun k (s : zM) i => Wt_close_l21 fu L k s 140 a i) (N := if cv = -1 then 0 else w 1)
    (fun i s => (∀ x j, x ≠ 141 → ¬ (x = 140 ∧ j = 5) → s x j = M x j) ∧ s 140 5 = cv ∧ (∀ p, 0 ≤ p → p < i → s 141 p = y_fy w cv py p) ∧ ∀ p, i ≤ p → p < w 1 → s 141 p = py p)
    (fun k s i h0 hN hJ => by
      obtain ⟨j1, j2, j3, j4⟩ := hJ
      have c0 : ¬ cv = -1 := fun c => by rw [if_pos c] at hN; omega
      rw [if_neg c0] at hN
      have ew : w32 (i + 1) = i + 1 := w32_id (by omega)
      have i24 : i < 24 := by omega
      have Ws : WR L s a B D P lv w := h.of fun x i c => j1 x i (by omega) (by omega)
      have s2 : s 140 2 = w 1 := (j1 _ _ (by omega) (by omega)).trans h2
      have s1 : s 140 1 = 141 := (j1 _ _ (by omega) (by omega)).trans p1
      by_cases c : cv < w (2 + i)
      · refine ⟨mu s 141 i (-3), ?_, ?_, ?_, ?_, ?_⟩
        · show Wt_close_s21 _ _ _ _ _ _ _ = _
          unfold Wt_close_s21
          simp only [l40, j2, c0, s2, hN, i24, la, Wr_bornIn Ws v, h0, and_self, ↓reduceIte, bd1_some, c, s1, l41, ↓lt1_def, ew]
        · exact fun x j q1 q2 => (mx_ne (by omega)).trans (j1 x j q1 q2)
        · exact (mx_ne (by omega)).trans j2
        · intro p q1 q2
          by_cases cc : p = i
          · subst cc
            rw [mx_same]; unfold y_fy; rw [if_pos ⟨c0, c⟩]
          · exact (mx_ne (by omega)).trans (j3 p q1 (by omega))
        · exact fun p q1 q2 => (mx_ne (by omega)).trans (j4 p (by omega) q2)
      · refine ⟨s, ?_, j1, j2, ?_, fun p q1 q2 => j4 p (by omega) q2⟩
        · show Wt_close_s21 _ _ _ _ _ _ _ = _
          unfold Wt_close_s21
          simp only [l40, j2, c0, s2, hN, i24, la, Wr_bornIn Ws v, h0, and_self, ↓reduceIte, bd1_some, c, ↓lt1_def, ew]
        · intro p q1 q2
          by_cases cc : p = i
          · subst cc
            rw [j4 p (Int.le_refl _) hN]; unfold y_fy; rw [if_neg (fun z => c z.2)]
          · exact j3 p q1 (by omega)) (if cv = -1 then 0 else (w 1).toNat) fu (mu M 140 5 cv) 0 (by omega) (by split <;> omega) (by split <;> omega) ⟨fun x j q1 q2 => mx_ne (by omega), mx_same _ _ _ _, fun p q1 q2 => absurd q2 (by omega), fun p q1 q2 => (mx_ne (by omega)).trans (hy p q1 q2)⟩
  have s2 : T 140 2 = w 1 := (hJ1 _ _ (by omega) (by omega)).trans h2
  refine ⟨T, e5.trans ?_, hJ1, hJ2, ?_⟩
  · show Wt_close_s21 _ _ _ _ _ _ _ = _
    unfold Wt_close_s21
    rw [l40, if_pos rfl, hJ2]
    by_cases c : cv = -1
    · rw [if_pos c]
    · rw [if_neg c, if_neg c, s2, if_neg (by omega)]
  · intro p q1 q2
    by_cases c : cv = -1
    · rw [if_pos c] at hJ4
      rw [hJ4 p q1 q2]; unfold y_fy; rw [if_neg (fun z => z.1 c)]
    · rw [if_neg c] at hJ3
      exact hJ3 p q1 q2
theorem Wt_look_ok (hf : 400 ≤ fu) (hL : Lay L) (hP : Ptr M) {a B D P lv : Int} {w : Int → Int} (h : WR L M a B D P lv w) (v : WV lv w) (hx : y_wa a B D P)
    {g st pt tl wh li per : Int} (hg : y_gc L M g st pt tl) (g0 : M g 0 = wh) (g1 : M g 1 = li) (hwh : 0 ≤ wh ∧ wh ≤ 2) (hl : 0 ≤ li ∧ li < lv) (hst : 1 ≤ st) (sk : ∀ k, 0 ≤ k → k < st → y_sk (M (M g 5)) (M (M g 6)) (M (M g 7)) (M (M g 8)) lv k) (hp : 0 ≤ per ∧ per ≤ 99) :
    ∃ M', Wt_look fu L M 140 a g per = some M' ∧ y_off M M' ∧ y_wt M' (w 1) (w 0) (y_end lv per w) (y_cv wh (y_py wh li w (M (M g 5)) (M (M g 6)) (M (M g 7)) (M (M g 8)) st) (w 1)) (y_nat wh li w) (if wh = 0 then 1 else 0) (y_fy w (y_cv wh (y_py wh li w (M (M g 5)) (M (M g 6)) (M (M g 7)) (M (M g 8)) st) (w 1)) (y_py wh li w (M (M g 5)) (M (M g 6)) (M (M g 7)) (M (M g 8)) st)) := by
  have l40 : L 140 = (10, 0) := hL 140 (by decide)
  have l41 : L 141 = (101, 24) := hL 141 (by decide)
  have l33 : L 133 = (6, 0) := hL 133 (by decide)
  have p0 : ∀ {T : zM}, Ptr T → T 140 0 = 133 := fun hT => hT (140, 0, 133) (by decide +kernel)
  have p1 : ∀ {T : zM}, Ptr T → T 140 1 = 141 := fun hT => hT (140, 1, 141) (by decide +kernel)
  have hw := v.1
  have hy := v.2.1
  have la := h.1.1
  have gg := hg
  obtain ⟨lg, ⟨g3, g4⟩, _, ⟨q0, q5, q6, q7, q8, q9, q10⟩, st0, _⟩ := hg
  have W : ∀ {T : zM}, y_off M T → WR L T a B D P lv w := fun o => o.wr hx h
  have hxx : (a < 133 ∧ B < 133 ∧ D < 133 ∧ P < 133) := hx.lt
  have G : ∀ {T : zM}, y_off M T → ∀ j, T g j = M g j := fun o j => o g j (by omega)
  obtain ⟨py, hpy⟩ : ∃ py, py = y_py wh li w (M (M g 5)) (M (M g 6)) (M (M g 7)) (M (M g 8)) st := ⟨_, rfl⟩
  rw [← hpy]
  obtain ⟨Q, hQ⟩ : ∃ Q, Q = mu (mu M 140 2 (w 1)) 140 3 (w 0) := ⟨_, rfl⟩
  have oQ : y_off M Q := by rw [hQ]; exact ((y_off.refl M).mu (by omega)).mu (by omega)
  obtain ⟨Q1, hQ1⟩ : ∃ Q1, Q1 = mu Q 140 4 (y_end lv per w) := ⟨_, rfl⟩
  have oQ1 : y_off M Q1 := by rw [hQ1]; exact oQ.mu (by omega)
  obtain ⟨Q2, hQ2⟩ : ∃ Q2, Q2 = mu Q1 140 7 (if wh = 0 then 1 else 0) := ⟨_, rfl⟩
  have oQ2 : y_off M Q2 := by rw [hQ2]; exact oQ1.mu (by omega)
  obtain ⟨Q3, hQ3⟩ : ∃ Q3, Q3 = mu Q2 140 6 (y_nat wh li w) := ⟨_, rfl⟩
  have oQ3 : y_off M Q3 := by rw [hQ3]; exact oQ2.mu (by omega)
  obtain ⟨Q4, e4, o4, r4⟩ := Rk_choose_ok (fu := fu) hf hL (oQ3.ptr hP) (oQ3.gc gg) (m := st) (n := 99) st0.1 (Int.le_refl _)
  have oQ4 : y_off M Q4 := oQ3.trans fun x i c => o4 x i (by omega) (by omega)
  rw [G oQ3 5, G oQ3 6, G oQ3 7, G oQ3 8, oQ3.hi q5, oQ3.hi q6, oQ3.hi q7, oQ3.hi q8] at r4
  have f4 : ∀ i, 2 ≤ i → Q4 140 i = Q3 140 i := fun i _ => o4 140 i (by omega) (by omega)
  have b2 : Q3 140 2 = w 1 ∧ Q3 140 3 = w 0 ∧ Q3 140 4 = y_end lv per w ∧ Q3 140 6 = y_nat wh li w ∧ Q3 140 7 = (if wh = 0 then 1 else 0) := by
    rw [hQ3, hQ2, hQ1, hQ]
    simp (disch := omega) only [mx_ne, mx_same, and_self]
  have hmin : min (w 1) 24 = w 1 := by omega
  have eW := Wr_theEnd (fu := fu) hf (W oQ) v hp
  have eN := Wr_natureOf (fu := fu) hf (W oQ2) v (g := g) (wh := wh) (li := li) lg ((G oQ2 0).trans g0) ((G oQ2 1).trans g1) hwh hl
  obtain ⟨T, k, e5, ⟨hJ1, hJ2, hJ3, hJ4⟩⟩ := y_lpx (F := fun k (s : zM) i => Wt_look_l72 fu L k s 140 a g i) (N := w 1)
    (fun i s => y_off M s ∧ (∀ j, 2 ≤ j → s 140 j = Q3 140 j) ∧ y_rk s (M (M g 5)) (M (M g 6)) (M (M g 7)) (M (M g 8)) st 99 ∧ ∀ p, 0 ≤ p → p < i → s 141 p = py p)
    (fun k s i h0 hN hJ => by
      obtain ⟨j1, j2, j3, j4⟩ := hJ
      have Ws := W j1
      have ew : w32 (i + 1) = i + 1 := w32_id (by omega)
      have i24 : i < 24 := by omega
      have s2 : s 140 2 = w 1 := (j2 2 (by omega)).trans b2.1
      have c0 := p0 (j1.ptr hP)
      have c1 := p1 (j1.ptr hP)
      have ic := Wr_inClass (fu := fu) Ws v (g := g) (wh := wh) (li := li) lg ((G j1 0).trans g0) ((G j1 1).trans g1) hl.1 h0 hN
      have hv := v.2.2 i h0 hN
      by_cases c : y_icl wh li w i = 1
      · have hD : y_cD (w (26 + i)) = y_cD (w (26 + i)) := rfl
        obtain ⟨T', t1, t2, t3⟩ := Rk_vestingYear_ok (fu := fu) hf hL (j1.ptr hP) Ws v (by omega) j3 (by omega) (by omega) sk (b := w (2 + i)) (d := w (26 + i)) (by omega) (by omega)
        have t4 : T' 140 1 = 141 := (t2 140 1 (by omega)).trans c1
        refine ⟨mu T' 141 i (py i), ?_, ?_, ?_, ⟨?_, ?_⟩, ?_⟩
        · show Wt_look_s72 _ _ _ _ _ _ _ _ = _
          unfold Wt_look_s72
          have hpi : py i = (fun y => if y < 0 then y else max y (w (2 + i))) (y_val (-1) (y_vop w (M (M g 5)) (M (M g 6)) (M (M g 7)) 99 (w (2 + i)) (w (26 + i))) (M (M g 8)) (st - 1)) := by
            rw [hpy]; unfold y_py y_vy; rw [if_pos c]
          rw [← hpi] at t1
          simp only [l40, s2, hN, i24, la, ic, c, bd1_some, Int.reduceEq, ↓reduceIte, Wr_bornIn Ws v, Wr_diedIn Ws v, h0, and_self, c0, c1, l33, ↓bd2_eq t1, t4, l41, ↓lt1_def, ew]
        · exact fun x j cc => (mx_ne (by omega)).trans ((t2 x j (by omega)).trans (j1 x j cc))
        · exact fun j hj => (mx_ne (by omega)).trans ((t2 140 j (by omega)).trans (j2 j hj))
        · exact (mx_ne (by omega)).trans ((t2 133 6 (by omega)).trans j3.1)
        · intro j j0 j5
          have := j3.2 j j0 j5
          rw [mx_ne (by omega), mx_ne (by omega), mx_ne (by omega), mx_ne (by omega), t2 _ _ (by omega), t2 _ _ (by omega), t2 _ _ (by omega), t2 _ _ (by omega)]
          exact this
        · intro p hp0 hp1
          by_cases cc : p = i
          · subst cc; exact mx_same _ _ _ _
          · exact (mx_ne (by omega)).trans ((t2 141 p (by omega)).trans (j4 p hp0 (by omega)))
      · have hpi : py i = -3 := by rw [hpy]; unfold y_py; rw [if_neg c]
        refine ⟨mu s 141 i (py i), ?_, ?_, ?_, ⟨?_, ?_⟩, ?_⟩
        · show Wt_look_s72 _ _ _ _ _ _ _ _ = _
          unfold Wt_look_s72
          have c' : y_icl wh li w i = 0 := by
            unfold y_icl at c ⊢
            (repeat' split) <;> first | rfl | (rename_i q; simp only [*, ↓reduceIte] at c; omega) | skip
            all_goals simp_all
          rw [hpi]
          simp only [l40, s2, hN, i24, la, ic, c', bd1_some, ↓reduceIte, h0, and_self, c1, l41, ↓lt1_def, ew]
        · exact fun x j cc => (mx_ne (by omega)).trans (j1 x j cc)
        · exact fun j hj => (mx_ne (by omega)).trans (j2 j hj)
        · exact (mx_ne (by omega)).trans j3.1
        · intro j j0 j5
          have := j3.2 j j0 j5
          rw [mx_ne (by omega), mx_ne (by omega), mx_ne (by omega), mx_ne (by omega)]
          exact this
        · intro p hp0 hp1
          by_cases cc : p = i
          · subst cc; exact mx_same _ _ _ _
          · exact (mx_ne (by omega)).trans (j4 p hp0 (by omega))) (w 1).toNat fu Q4 0 (by omega) (by omega) (by omega) ⟨oQ4, f4, r4, fun p q1 q2 => absurd q2 (by omega)⟩
  have s2 : T 140 2 = w 1 := (hJ2 2 (by omega)).trans b2.1
  obtain ⟨U, u1, u2, u3, u4⟩ := Wt_close_ok (fu := fu) hf hL (hJ1.ptr hP) (W hJ1) v (by omega) (wh := wh) (py := py) s2 ((hJ2 7 (by omega)).trans b2.2.2.2.2) hJ4
  have e6 : Wt_look_l72 fu L fu Q4 140 a g 0 = some U := by
    refine e5.trans ?_
    show Wt_look_s72 _ _ _ _ _ _ _ _ = _
    unfold Wt_look_s72
    rw [l40, if_pos rfl, s2, if_neg (by omega), u1, bd1_some]
  have fU : ∀ j, 2 ≤ j → j ≠ 5 → U 140 j = Q3 140 j := fun j h1 h2 => (u2 140 j (by omega) (by omega)).trans (hJ2 j h1)
  refine ⟨U, ?_, fun x j c => (u2 x j (by omega) (by omega)).trans (hJ1 x j c), ⟨(fU 2 (by omega) (by omega)).trans b2.1, (fU 3 (by omega) (by omega)).trans b2.2.1, (fU 4 (by omega) (by omega)).trans b2.2.2.1, u3, (fU 6 (by omega) (by omega)).trans b2.2.2.2.1, (fU 7 (by omega) (by omega)).trans b2.2.2.2.2⟩, u4, by omega⟩
  have c0 : Q3 140 0 = 133 := p0 (oQ3.ptr hP)
  have hb43 : ∀ z, z = (if wh = 0 then 1 else 0) → Wt_look_b43 fu L Q1 140 a g 140 z = some U := fun z hz => by
    unfold Wt_look_b43
    have z01 : 0 ≤ z ∧ z ≤ 1 := by rw [hz]; split <;> omega
    rw [l40, if_pos rfl, if_pos z01, lt1_def, hz, ← hQ2, la, if_pos rfl, eN, bd1_some, if_pos rfl, lt1_def, ← hQ3, lg, if_pos rfl, c0, l33, if_pos rfl, G oQ3 3, g3, e4, bd1_some, e6]
  have a5 : mu M 140 2 (w 1) a 5 = w 0 := (mx_ne (by omega)).trans h.2.1.2.2
  have q0' : Q1 g 0 = wh := (G oQ1 0).trans g0
  unfold Wt_look
  rw [la, if_pos rfl, l40, if_pos rfl, h.2.1.2.1, hmin, lt1_def, a5, lt1_def, ← hQ, eW, bd1_some, lt1_def, ← hQ1, lg, if_pos rfl, q0']
  by_cases c : wh = 0
  · rw [if_pos c]
    exact hb43 1 (by rw [if_pos c])
  · rw [if_neg c]
    exact hb43 0 (by rw [if_neg c])
end

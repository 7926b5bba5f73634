/-! ===== pure: part 64: the class reckons when one vests ===== -/
theorem WR.of {L : zL} {M M' : zM} {a B D P lv : Int} {w : Int → Int} (h : WR L M a B D P lv w) (e : ∀ x i, x = a ∨ x = B ∨ x = D ∨ x = P → M' x i = M x i) : WR L M' a B D P lv w := by
  have ea := fun i => e a i (Or.inl rfl)
  obtain ⟨⟨w1, ⟨w2, w3, w4⟩, w5, w6, w7⟩, ⟨w8, w9, w10⟩, wr⟩ := h
  refine ⟨⟨w1, ⟨?_, ?_, ?_⟩, w5, w6, w7⟩, ⟨?_, ?_, ?_⟩, fun p p0 p1 => ?_⟩
  · rw [ea]; exact w2
  · rw [ea]; exact w3
  · rw [ea]; exact w4
  · rw [ea]; exact w8
  · rw [ea]; exact w9
  · rw [ea]; exact w10
  · rw [e B p (by omega), e D p (by omega), e P p (by omega)]; exact wr p p0 p1
def y_asof (now y : Int) : Int := if now < y then -1 else y
def y_rch (now b d n : Int) : Int := if d < max 0 (b + n) then -2 else y_asof now (max 0 (b + n))
def y_later (a b : Int) : Int := if a < 0 ∨ b < 0 then min a b else max a b
def y_earl (a b : Int) : Int := if a < 0 ∨ b < 0 then max a b else min a b
def y_vop (w K N A : Int → Int) (ln b d : Int) (k fi la : Int) : Int :=
  if K k = 0 then y_asof (w 0) (N k) else if K k = 1 then (if w (26 + A k) = 16777216 then -1 else w (26 + A k)) else if K k = 2 then max 0 b else if K k = 3 then y_rch (w 0) b d (min ln (N k)) else if K k = 4 then y_rch (w 0) (w (2 + A k)) (w (26 + A k)) (min ln (N k)) else if K k = 5 then (if la < 0 then la else y_asof (w 0) (la + N k)) else if K k = 6 then y_later fi la else y_earl fi la
/-- a year in its bounds -/
def y_yb (y : Int) : Prop := -2 ≤ y ∧ y ≤ 400
theorem y_vop_b {w K N A : Int → Int} {lv ln b d k fi la : Int} (v : WV lv w) (hb : b ≤ 400) (sk : (K k = 1 ∨ K k = 4 → 0 ≤ A k ∧ A k < lv)) (sn : K k ≤ 5 → 0 ≤ N k ∧ N k ≤ 99) (h1 : y_yb fi) (h2 : y_yb la) : y_yb (y_vop w K N A ln b d k fi la) := by
  have hw := v.1
  have hy := v.2.1
  unfold y_yb at *
  unfold y_vop y_asof y_rch y_asof y_later y_earl
  by_cases c1 : K k = 1
  · have := v.2.2 (A k) (sk (Or.inl c1)).1 (by have := sk (Or.inl c1); omega)
    simp only [c1, Int.reduceEq, ↓reduceIte]
    split <;> omega
  · by_cases c4 : K k = 4
    · simp only [c4, Int.reduceEq, ↓reduceIte]
      (repeat' split) <;> omega
    · simp only [c1, c4, ↓reduceIte]
      (repeat' split) <;> omega
section
variable {fu : Nat} {L : zL} {M : zM}
theorem Rk_answerOf_ok (hL : Lay L) {r : Int} (hr : r = 138 ∨ r = 139) (x : Int) : ∃ y, Rk_answerOf fu L M r x = some y ∧ (0 ≤ x → x < 31 → y = M r x) := by
  have l1 : L r = (101, 31) := by
    rcases hr with e | e
    · rw [e]; exact hL 138 (by decide)
    · rw [e]; exact hL 139 (by decide)
  unfold Rk_answerOf
  by_cases c : x < 0
  · exact ⟨0, by rw [if_pos c], fun h => by omega⟩
  · by_cases c1 : x < 31
    · exact ⟨M r x, by simp only [c, c1, l1, ↓reduceIte, show 0 ≤ x by omega, and_self], fun _ _ => rfl⟩
    · exact ⟨0, by simp only [c, c1, l1, ↓reduceIte], fun _ h => by omega⟩
theorem Rk_asOf_ok (x y : Int) : Rk_asOf fu L M x y = some (y_asof x y) := by
  unfold Rk_asOf y_asof
  split <;> rfl
theorem Rk_later_ok (x y : Int) : Rk_later fu L M x y = some (y_later x y) := by
  unfold Rk_later y_later
  (repeat' split) <;> first | rfl | omega
theorem Rk_earlier_ok (x y : Int) : Rk_earlier fu L M x y = some (y_earl x y) := by
  unfold Rk_earlier y_earl
  (repeat' split) <;> first | rfl | omega
theorem Rk_reached_ok {now b d n : Int} (hb : -400 ≤ b ∧ b ≤ 400) (hn : 0 ≤ n ∧ n ≤ 99) (hd : d = 16777216 ∨ 0 ≤ d ∧ d ≤ 400) : Rk_reached fu L M now b (y_cD d) n = some (y_rch now b d n) := by
  have e : w32 (b + n) = b + n := w32_id (by omega)
  unfold Rk_reached y_rch
  rw [lt1_def, e, Rk_asOf_ok, bd1_some]
  by_cases c : d = 16777216
  · rw [y_cD_l c, if_pos rfl, if_neg (by omega)]
  · rw [y_cD_d c, if_neg (by omega)]
    split <;> rfl
end
theorem y_low_a {K N : Int → Int} {n j : Int} (h : K j = 3 ∨ K j = 4) : y_low K N n j = min n (N j) := if_pos h
theorem y_low_b {K N : Int → Int} {n j : Int} (h : ¬ (K j = 3 ∨ K j = 4)) : y_low K N n j = N j := if_neg h
theorem Rk_vestingYear_ok {fu : Nat} (hf : 400 ≤ fu) {L : zL} (hL : Lay L) {M : zM} (hP : Ptr M) {a B D P lv : Int} {w : Int → Int} (h : WR L M a B D P lv w) (v : WV lv w) (hx : a ≠ 138 ∧ B ≠ 138 ∧ D ≠ 138 ∧ P ≠ 138)
    {K N A F : Int → Int} {m ln : Int} (hr : y_rk M K N A F m ln) (hm : 1 ≤ m ∧ m ≤ 31) (hl : 0 ≤ ln ∧ ln ≤ 99) (sk : ∀ k, 0 ≤ k → k < m → y_sk K N A F lv k) {b d : Int} (hb : -99 ≤ b ∧ b ≤ 400) (hd : d = 16777216 ∨ 0 ≤ d ∧ d ≤ 400) :
    ∃ M', Rk_vestingYear fu L M 133 a b (y_cD d) = some (M', (fun y => if y < 0 then y else max y b) (y_val (-1) (y_vop w K N A ln b d) F (m - 1))) ∧ (∀ x i, x ≠ 138 → M' x i = M x i) ∧ y_yb (y_val (-1) (y_vop w K N A ln b d) F (m - 1)) := by
  have l33 : L 133 = (6, 0) := hL 133 (by decide)
  have l34 : L 134 = (101, 31) := hL 134 (by decide)
  have l35 : L 135 = (101, 31) := hL 135 (by decide)
  have l36 : L 136 = (101, 31) := hL 136 (by decide)
  have l37 : L 137 = (101, 31) := hL 137 (by decide)
  have l38 : L 138 = (101, 31) := hL 138 (by decide)
  have p0 : M 133 0 = 134 := hP (133, 0, 134) (by decide +kernel)
  have p1 : M 133 1 = 135 := hP (133, 1, 135) (by decide +kernel)
  have p2 : M 133 2 = 136 := hP (133, 2, 136) (by decide +kernel)
  have p3 : M 133 3 = 137 := hP (133, 3, 137) (by decide +kernel)
  have p4 : M 133 4 = 138 := hP (133, 4, 138) (by decide +kernel)
  have hw := v.1
  have hy := v.2.1
  have la := h.1.1
  obtain ⟨⟨M', y⟩, k, e, ⟨hJ1, hJ2, hJ3, hJ4⟩⟩ := y_lpx (F := fun k (s : zM × Int) i => Rk_vestingYear_l6 fu L k s.1 133 a b (y_cD d) s.2 i) (N := m)
    (fun i s => (∀ x j, x ≠ 138 → s.1 x j = M x j) ∧ (∀ j, 0 ≤ j → j < i → s.1 138 j = y_val (-1) (y_vop w K N A ln b d) F j ∧ y_yb (s.1 138 j)) ∧ s.2 = y_tab (-1) (y_vop w K N A ln b d) F i.toNat (i - 1) ∧ y_yb s.2)
    (fun k s i h0 hN hJ => by
      obtain ⟨T, y⟩ := s
      obtain ⟨o, r1, r2, r3⟩ := hJ
      dsimp only at o r1 r2 r3
      have hW : WR L T a B D P lv w := h.of (fun x j hxx => o x j (by omega))
      have a0 : T 133 0 = 134 := (o _ _ (by omega)).trans p0
      have a1 : T 133 1 = 135 := (o _ _ (by omega)).trans p1
      have a2 : T 133 2 = 136 := (o _ _ (by omega)).trans p2
      have a3 : T 133 3 = 137 := (o _ _ (by omega)).trans p3
      have a4 : T 133 4 = 138 := (o _ _ (by omega)).trans p4
      have a6 : T 133 6 = m := (o _ _ (by omega)).trans hr.1
      have aw : T a 5 = w 0 := hW.2.1.2.2
      obtain ⟨rK, rN, rA, rF⟩ := hr.2 i h0 hN
      rw [← o 134 i (by omega)] at rK
      rw [← o 135 i (by omega)] at rN
      rw [← o 136 i (by omega)] at rA
      rw [← o 137 i (by omega)] at rF
      obtain ⟨s1, s2, s3, s4, s5⟩ := sk i h0 hN
      have ew : w32 (i + 1) = i + 1 := w32_id (by omega)
      have i31 : i < 31 := by omega
      have ye := y_val_eq (d := (-1 : Int)) (op := y_vop w K N A ln b d) (F := F) h0
      rw [← r2] at ye
      obtain ⟨fi, f1, f2⟩ := Rk_answerOf_ok (fu := fu) (M := T) hL (Or.inl rfl) (F i)
      have yb : y_yb (y_val (-1) (y_vop w K N A ln b d) F i) := by
        by_cases c : 6 ≤ K i
        · rw [ye]
          refine y_vop_b v hb.2 s3 s2 ?_ r3
          have s4' := s4 c
          have t1 := y_tab_val (d := (-1 : Int)) (op := y_vop w K N A ln b d) (F := F) i.toNat (F i) s4'.1 (by omega)
          rw [t1, ← (r1 (F i) s4'.1 s4'.2).1]
          exact (r1 (F i) s4'.1 s4'.2).2
        · have e : ∀ z z', y_vop w K N A ln b d i z y = y_vop w K N A ln b d i z' y := fun z z' => by
            unfold y_vop
            rw [if_neg (show ¬ K i = 6 by omega), if_neg (show ¬ K i = 6 by omega)]
            by_cases c5 : K i = 5
            · simp only [c5, Int.reduceEq, ↓reduceIte]
            · (repeat' split) <;> first | rfl | omega
          rw [ye, e _ 0]
          exact y_vop_b v hb.2 s3 s2 (by unfold y_yb; omega) r3
      refine ⟨(mu T 138 i (y_val (-1) (y_vop w K N A ln b d) F i), y_val (-1) (y_vop w K N A ln b d) F i), ?_, ?_, ?_, ?_, yb⟩
      · show Rk_vestingYear_s6 _ _ _ _ _ _ _ _ _ _ = Rk_vestingYear_l6 _ _ _ (mu T 138 i _) _ _ _ _ _ _
        unfold Rk_vestingYear_s6 Rk_vestingYear_b136 Rk_vestingYear_b240
        simp only [l33, a6, hN, i31, l37, a3, h0, rF, a4, ↓bd1_eq f1, a0, l34, rK, and_self, ↓reduceIte, a1, a2, l35, l36, l38, la, aw, rN, rA, ew, ↓lt1_def, Rk_asOf_ok, Rk_later_ok, Rk_earlier_ok, bd1_some]
        generalize hg : y_tab (-1) (y_vop w K N A ln b d) F i.toNat (F i) = tf at ye
        have hfi : 6 ≤ K i → fi = tf := fun c => by
          have s4' := s4 c
          rw [f2 s4'.1 (by omega), (r1 (F i) s4'.1 s4'.2).1, ← hg]
          exact (y_tab_val i.toNat (F i) s4'.1 (by omega)).symm
        rw [ye]
        unfold y_vop
        rcases (show K i = 0 ∨ K i = 1 ∨ K i = 2 ∨ K i = 3 ∨ K i = 4 ∨ K i = 5 ∨ K i = 6 ∨ K i = 7 by omega) with c | c | c | c | c | c | c | c
        · rw [y_low_b (show ¬ (K i = 3 ∨ K i = 4) by omega)]
          simp only [c, Int.reduceEq, ↓reduceIte]
        · have hA := s3 (Or.inl c)
          have hA2 : A i < w 1 := by omega
          simp only [c, Int.reduceEq, ↓reduceIte, Wr_isAlive hW v, Wr_diedIn hW v, hA.1, hA2, true_and, and_self, bd1_some]
          by_cases c2 : w (26 + A i) = 16777216
          · simp only [c2, Int.reduceEq, ↓reduceIte]
          · simp only [c2, y_cD_d c2, ↓reduceIte]
        · simp only [c, Int.reduceEq, ↓reduceIte]
        · have s2' := s2 (by omega)
          rw [y_low_a (Or.inl c)]
          have e := Rk_reached_ok (fu := fu) (L := L) (M := T) (now := w 0) (b := b) (d := d) (n := min ln (N i)) (by omega) (by omega) hd
          simp only [c, Int.reduceEq, ↓reduceIte, e, bd1_some]
        · have s2' := s2 (by omega)
          have hA := s3 (Or.inr c)
          have hA2 : A i < w 1 := by omega
          have hv := v.2.2 (A i) hA.1 hA2
          rw [y_low_a (Or.inr c)]
          have e := Rk_reached_ok (fu := fu) (L := L) (M := T) (now := w 0) (b := w (2 + A i)) (d := w (26 + A i)) (n := min ln (N i)) (by omega) (by omega) (by omega)
          simp only [c, Int.reduceEq, ↓reduceIte, Wr_bornIn hW v, Wr_diedIn hW v, hA.1, hA2, and_self, bd1_some, e]
        · have s2' := s2 (by omega)
          rw [y_low_b (show ¬ (K i = 3 ∨ K i = 4) by omega)]
          unfold y_yb at r3
          have e : w32 (y + N i) = y + N i := w32_id (by omega)
          simp only [c, Int.reduceEq, ↓reduceIte, e]
          split <;> rfl
        · rw [hfi (by omega)]
          simp only [c, Int.reduceEq, ↓reduceIte]
        · rw [hfi (by omega)]
          simp only [c, Int.reduceEq, ↓reduceIte]
      · intro x j hxx
        exact (mx_ne (by omega)).trans (o x j hxx)
      · intro j j0 j1
        by_cases c : j = i
        · subst c
          exact ⟨mx_same _ _ _ _, by rw [show (mu T 138 j (y_val (-1) (y_vop w K N A ln b d) F j), y_val (-1) (y_vop w K N A ln b d) F j).1 138 j = _ from mx_same _ _ _ _]; exact yb⟩
        · have e : mu T 138 i (y_val (-1) (y_vop w K N A ln b d) F i) 138 j = T 138 j := mx_ne (by omega)
          show mu T 138 i (y_val (-1) (y_vop w K N A ln b d) F i) 138 j = _ ∧ y_yb (mu T 138 i (y_val (-1) (y_vop w K N A ln b d) F i) 138 j)
          rw [e]
          exact r1 j j0 (by omega)
      · show _ = y_tab _ _ _ (i + 1).toNat (i + 1 - 1)
        rw [show i + 1 - 1 = i by omega]
        exact (y_tab_val _ _ h0 (by omega)).symm) m.toNat fu (M, -1) 0 (by omega) (by omega) (by omega) ⟨fun _ _ _ => rfl, fun j j0 j1 => absurd j1 (by omega), rfl, (by decide : (-2 : Int) ≤ -1), (by decide : (-1 : Int) ≤ 400)⟩
  dsimp only at e hJ1 hJ2 hJ3 hJ4
  have ey : y = y_val (-1) (y_vop w K N A ln b d) F (m - 1) := by
    rw [hJ3]; exact y_tab_val _ _ (by omega) (by omega)
  rw [← ey]
  refine ⟨M', ?_, hJ1, hJ4⟩
  refine e.trans ?_
  show Rk_vestingYear_s6 _ _ _ _ _ _ _ _ _ _ = _
  unfold Rk_vestingYear_s6 Rk_vestingYear_b281
  rw [l33, if_pos rfl, hJ1 133 6 (by omega), hr.1, if_neg (by omega)]
  show _ = some (M', if y < 0 then y else max y b)
  split <;> rfl

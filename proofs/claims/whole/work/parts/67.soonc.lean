/-! ===== pure: part 67: SOONEST, both sides ===== -/
def y_sb (sort : Int) : Int := if sort = 0 then 0 else if sort = 1 then 1 else 14
def y_sop (w K N A : Int → Int) (ln sort life : Int) (k fi la : Int) : Int :=
  if K k = 0 then N k else if K k = 1 then 0 else if K k = 2 then y_sb sort else if K k = 3 then (if sort = 0 then max 0 (w (2 + life) + min ln (N k)) else y_sb sort + min ln (N k)) else if K k = 4 then max 0 (w (2 + A k) + min ln (N k)) else if K k = 5 then la + N k else if K k = 6 then max fi la else min fi la
/-- a number of years in its bounds -/
def y_nb (k v : Int) : Prop := 0 ≤ v ∧ v ≤ 600 + 100 * k
theorem y_sb_b (sort : Int) : 0 ≤ y_sb sort ∧ y_sb sort ≤ 14 := by
  unfold y_sb
  (repeat' split) <;> omega
theorem y_sop_b {w K N A : Int → Int} {lv ln sort life k fi la : Int} (v : WV lv w) (hl : 0 ≤ ln ∧ ln ≤ 99) (hf : 0 ≤ life ∧ life < lv) (hk : 0 ≤ k) (hk0 : 0 ≤ K k) (sk : (K k = 1 ∨ K k = 4 → 0 ≤ A k ∧ A k < lv)) (sn : K k ≤ 5 → 0 ≤ N k ∧ N k ≤ 99) (h1 : 6 ≤ K k → y_nb k fi) (h2 : y_nb (k - 1) la) : y_nb k (y_sop w K N A ln sort life k fi la) := by
  have hw := v.1
  have hy := v.2.1
  have hs := y_sb_b sort
  have h3 := v.2.2 life hf.1 (by omega)
  unfold y_nb at *
  unfold y_sop
  by_cases c4 : K k = 4
  · have := v.2.2 (A k) (sk (Or.inr c4)).1 (by have := sk (Or.inr c4); omega)
    simp only [c4, Int.reduceEq, ↓reduceIte]
    omega
  · simp only [c4, ↓reduceIte]
    (repeat' split) <;> omega
theorem y_sval_b {w K N A F : Int → Int} {lv ln sort life m : Int} (v : WV lv w) (hl : 0 ≤ ln ∧ ln ≤ 99) (hf : 0 ≤ life ∧ life < lv) (sk : ∀ k, 0 ≤ k → k < m → y_sk K N A F lv k) : ∀ (n : Nat) (k : Int), 0 ≤ k → k < m → k < n → y_nb k (y_val 0 (y_sop w K N A ln sort life) F k)
  | 0, k, h0, _, h1 => absurd h1 (by omega)
  | n + 1, k, h0, hm, h1 => by
    obtain ⟨s1, s2, s3, s4, s5⟩ := sk k h0 hm
    have hla : y_nb (k - 1) (y_tab 0 (y_sop w K N A ln sort life) F k.toNat (k - 1)) := by
      by_cases c : 1 ≤ k
      · rw [y_tab_val k.toNat (k - 1) (by omega) (by omega)]
        exact y_sval_b v hl hf sk n (k - 1) (by omega) (by omega) (by omega)
      · rw [show k = 0 by omega]; exact ⟨by show (0 : Int) ≤ 0; omega, by show (0 : Int) ≤ 600 + 100 * (0 - 1); omega⟩
    rw [y_val_eq h0]
    refine y_sop_b v hl hf h0 s1.1 s3 s2 (fun c => ?_) hla
    have s4' := s4 c
    rw [y_tab_val k.toNat (F k) s4'.1 (by omega)]
    have := y_sval_b (ln := ln) (sort := sort) (life := life) v hl hf sk n (F k) s4'.1 (by omega) (by omega)
    unfold y_nb at *
    omega
theorem Wr_yearsTo {fu : Nat} {L : zL} {M : zM} {a B D P lv : Int} {w : Int → Int} (h : WR L M a B D P lv w) (v : WV lv w) {l n : Int} (hl : 0 ≤ l ∧ l < lv) (hn : 0 ≤ n ∧ n ≤ 99) : Wd_yearsTo fu L M a l n = some (max 0 (w (2 + l) + n)) := by
  have hw := v.1
  have hy := v.2.1
  have hv := v.2.2 l hl.1 (by omega)
  have e1 := h.1.1
  have e : w32 (w (2 + l) + n) = w (2 + l) + n := w32_id (by omega)
  have l2 : l < w 1 := by omega
  unfold Wd_yearsTo
  simp only [e1, Wr_bornIn h v, hl.1, l2, and_self, ↓reduceIte, bd1_some, e]
theorem Rk_soonestYear_ok {fu : Nat} (hf : 400 ≤ fu) {L : zL} (hL : Lay L) {M : zM} (hP : Ptr M) {a B D P lv : Int} {w : Int → Int} (h : WR L M a B D P lv w) (v : WV lv w) (hx : a ≠ 138 ∧ B ≠ 138 ∧ D ≠ 138 ∧ P ≠ 138)
    {K N A F : Int → Int} {m ln : Int} (hr : y_rk M K N A F m ln) (hm : 1 ≤ m ∧ m ≤ 31) (hl : 0 ≤ ln ∧ ln ≤ 99) (sk : ∀ k, 0 ≤ k → k < m → y_sk K N A F lv k) {sort life : Int} (hlf : 0 ≤ life ∧ life < lv) :
    ∃ M', Rk_soonestYear fu L M 133 a sort life = some (M', max (y_val 0 (y_sop w K N A ln sort life) F (m - 1)) (y_sb sort)) ∧ (∀ x i, x ≠ 138 → M' x i = M x i) := by
  have l33 : L 133 = (6, 0) := hL 133 (by decide)
  have l34 : L 134 = (101, 31) := hL 134 (by decide)
  have l35 : L 135 = (101, 31) := hL 135 (by decide)
  have l36 : L 136 = (101, 31) := hL 136 (by decide)
  have l37 : L 137 = (101, 31) := hL 137 (by decide)
  have l38 : L 138 = (101, 31) := hL 138 (by decide)
  have p0 : M 133 0 = 134 := hP (133, 0, 134) (by decide +kernel)
  have p1 : M 133 1 = 135 := hP (133, 1, 135) (by decide +kernel)
  have p2 : M 133 2 = 136 := hP (133, 2, 136) (by decide +kernel)
  have p3 : M 133 3 = 137 := hP (133, 3, 137) (by decide +kernel)
  have p4 : M 133 4 = 138 := hP (133, 4, 138) (by decide +kernel)
  have hw := v.1
  have hy := v.2.1
  have la := h.1.1
  have hbs : Rk_bornSoonest fu L M sort = some (y_sb sort) := by
    unfold Rk_bornSoonest y_sb
    (repeat' split) <;> rfl
  have hsb := y_sb_b sort
  unfold Rk_soonestYear
  rw [hbs, bd1_some]
  obtain ⟨⟨M', y⟩, k, e, ⟨hJ1, hJ2, hJ3⟩⟩ := y_lpx (F := fun k (s : zM × Int) i => Rk_soonestYear_l12 fu L k s.1 133 a sort life (y_sb sort) s.2 i) (N := m)
    (fun i s => (∀ x j, x ≠ 138 → s.1 x j = M x j) ∧ (∀ j, 0 ≤ j → j < i → s.1 138 j = y_val 0 (y_sop w K N A ln sort life) F j) ∧ s.2 = y_tab 0 (y_sop w K N A ln sort life) F i.toNat (i - 1))
    (fun k s i h0 hN hJ => by
      obtain ⟨T, y⟩ := s
      obtain ⟨o, r1, r2⟩ := hJ
      dsimp only at o r1 r2
      have hW : WR L T a B D P lv w := h.of (fun x j hxx => o x j (by omega))
      have a0 : T 133 0 = 134 := (o _ _ (by omega)).trans p0
      have a1 : T 133 1 = 135 := (o _ _ (by omega)).trans p1
      have a2 : T 133 2 = 136 := (o _ _ (by omega)).trans p2
      have a3 : T 133 3 = 137 := (o _ _ (by omega)).trans p3
      have a4 : T 133 4 = 138 := (o _ _ (by omega)).trans p4
      have a6 : T 133 6 = m := (o _ _ (by omega)).trans hr.1
      obtain ⟨rK, rN, rA, rF⟩ := hr.2 i h0 hN
      rw [← o 134 i (by omega)] at rK
      rw [← o 135 i (by omega)] at rN
      rw [← o 136 i (by omega)] at rA
      rw [← o 137 i (by omega)] at rF
      obtain ⟨s1, s2, s3, s4, s5⟩ := sk i h0 hN
      have ew : w32 (i + 1) = i + 1 := w32_id (by omega)
      have i31 : i < 31 := by omega
      have ye := y_val_eq (d := (0 : Int)) (op := y_sop w K N A ln sort life) (F := F) h0
      rw [← r2] at ye
      obtain ⟨fi, f1, f2⟩ := Rk_answerOf_ok (fu := fu) (M := T) hL (Or.inl rfl) (F i)
      refine ⟨(mu T 138 i (y_val 0 (y_sop w K N A ln sort life) F i), y_val 0 (y_sop w K N A ln sort life) F i), ?_, ?_, ?_, ?_⟩
      · show Rk_soonestYear_s12 _ _ _ _ _ _ _ _ _ _ _ = Rk_soonestYear_l12 _ _ _ (mu T 138 i _) _ _ _ _ _ _ _
        unfold Rk_soonestYear_s12 Rk_soonestYear_b143
        simp only [l33, a6, hN, i31, l37, a3, h0, rF, a4, ↓bd1_eq f1, a0, l34, rK, and_self, ↓reduceIte, a1, a2, l35, l36, l38, la, rN, rA, ew, ↓lt1_def, bd1_some]
        have hb2 := y_sval_b (ln := ln) (sort := sort) (life := life) (F := F) v hl hlf sk (i.toNat + 1)
        generalize hg : y_tab 0 (y_sop w K N A ln sort life) F i.toNat (F i) = tf at ye
        have hfi : 6 ≤ K i → fi = tf := fun c => by
          have s4' := s4 c
          rw [f2 s4'.1 (by omega), r1 (F i) s4'.1 s4'.2, ← hg]
          exact (y_tab_val i.toNat (F i) s4'.1 (by omega)).symm
        have hyb : 1 ≤ i → 0 ≤ y ∧ y ≤ 600 + 100 * (i - 1) := fun c => by
          rw [r2, y_tab_val i.toNat (i - 1) (by omega) (by omega)]
          exact hb2 (i - 1) (by omega) (by omega) (by omega)
        rw [ye]
        unfold y_sop
        rcases (show K i = 0 ∨ K i = 1 ∨ K i = 2 ∨ K i = 3 ∨ K i = 4 ∨ K i = 5 ∨ K i = 6 ∨ K i = 7 by omega) with c | c | c | c | c | c | c | c
        · rw [y_low_b (show ¬ (K i = 3 ∨ K i = 4) by omega)]
          simp only [c, Int.reduceEq, ↓reduceIte]
        · simp only [c, Int.reduceEq, ↓reduceIte]
        · simp only [c, Int.reduceEq, ↓reduceIte]
        · have s2' := s2 (by omega)
          rw [y_low_a (Or.inl c)]
          have e := Wr_yearsTo (fu := fu) hW v (l := life) (n := min ln (N i)) hlf (by omega)
          have e2 : w32 (y_sb sort + min ln (N i)) = y_sb sort + min ln (N i) := w32_id (by omega)
          by_cases cs : sort = 0
          · simp only [c, cs, Int.reduceEq, ↓reduceIte, e, bd1_some]
          · simp only [c, cs, Int.reduceEq, ↓reduceIte, e2]
        · have s2' := s2 (by omega)
          rw [y_low_a (Or.inr c)]
          have e := Wr_yearsTo (fu := fu) hW v (l := A i) (n := min ln (N i)) (s3 (Or.inr c)) (by omega)
          simp only [c, Int.reduceEq, ↓reduceIte, e, bd1_some]
        · have s2' := s2 (by omega)
          have hyb' := hyb (s5 (by omega))
          rw [y_low_b (show ¬ (K i = 3 ∨ K i = 4) by omega)]
          have e : w32 (y + N i) = y + N i := w32_id (by omega)
          simp only [c, Int.reduceEq, ↓reduceIte, e]
        · rw [hfi (by omega)]
          simp only [c, Int.reduceEq, ↓reduceIte]
        · rw [hfi (by omega)]
          simp only [c, Int.reduceEq, ↓reduceIte]
      · intro x j hxx
        exact (mx_ne (by omega)).trans (o x j hxx)
      · intro j j0 j1
        by_cases c : j = i
        · subst c
          exact mx_same _ _ _ _
        · exact (mx_ne (by omega)).trans (r1 j j0 (by omega))
      · show _ = y_tab _ _ _ (i + 1).toNat (i + 1 - 1)
        rw [show i + 1 - 1 = i by omega]
        exact (y_tab_val _ _ h0 (by omega)).symm) m.toNat fu (M, 0) 0 (by omega) (by omega) (by omega) ⟨fun _ _ _ => rfl, fun j j0 j1 => absurd j1 (by omega), rfl⟩
  dsimp only at e hJ1 hJ2 hJ3
  have ey : y = y_val 0 (y_sop w K N A ln sort life) F (m - 1) := by
    rw [hJ3]; exact y_tab_val _ _ (by omega) (by omega)
  rw [← ey]
  refine ⟨M', ?_, hJ1⟩
  refine e.trans ?_
  show Rk_soonestYear_s12 _ _ _ _ _ _ _ _ _ _ _ = _
  unfold Rk_soonestYear_s12
  rw [l33, if_pos rfl, hJ1 133 6 (by omega), hr.1, if_neg (by omega)]

/-! ===== pure: part 69: how far BEHIND, the class ===== -/
def y_has (set l : Int) : Int := if iand (ishr set l) 1 = 1 then 1 else 0
def y_bb (sort life set : Int) : Int := if sort = 0 then 0 else if sort = 1 ∧ y_has set life = 1 then 0 else 1000000
def y_ab (w : Int → Int) (set l n : Int) : Int := if y_has set l = 1 then 0 else max 0 (w (2 + l) + n)
def y_as (w : Int → Int) (l n : Int) : Int := if max 0 (w (2 + l) + n) = 0 then 0 else 1000000
def y_mo (v n : Int) : Int := if v < 1000000 then v + n else 1000000
def y_bop (w K N A : Int → Int) (ln sort life set : Int) (k : Int) (fi la : Int × Int) : Int × Int :=
  if K k = 0 then (N k, N k) else if K k = 1 then (if y_has set (A k) = 1 then (0, 0) else (1000000, 1000000)) else if K k = 2 then (y_bb sort life set, y_bb sort life set) else if K k = 3 then (if sort = 0 then (y_ab w set life (min ln (N k)), y_as w life (min ln (N k))) else (y_mo (y_bb sort life set) (min ln (N k)), if min ln (N k) = 0 then y_bb sort life set else 1000000)) else if K k = 4 then (y_ab w set (A k) (min ln (N k)), y_as w (A k) (min ln (N k))) else if K k = 5 then (y_mo la.1 (N k), y_mo la.2 (N k)) else if K k = 6 then (max fi.1 la.1, max fi.2 la.2) else (min (max fi.1 la.1) (min fi.2 la.2), min fi.2 la.2)
/-- years in their bounds, or EVER -/
def y_eb (k v : Int) : Prop := (0 ≤ v ∧ v ≤ 600 + 100 * k) ∨ v = 1000000
theorem y_has_b (set l : Int) : y_has set l = 0 ∨ y_has set l = 1 := by
  unfold y_has
  split
  · exact Or.inr rfl
  · exact Or.inl rfl
theorem y_bb_b (sort life set : Int) : y_bb sort life set = 0 ∨ y_bb sort life set = 1000000 := by
  unfold y_bb
  (repeat' split) <;> omega
theorem y_ab_b {w : Int → Int} {lv set l n : Int} (v : WV lv w) (hl : 0 ≤ l ∧ l < lv) (hn : 0 ≤ n ∧ n ≤ 99) : 0 ≤ y_ab w set l n ∧ y_ab w set l n ≤ 600 := by
  have hw := v.1
  have hy := v.2.1
  have hv := v.2.2 l hl.1 (by omega)
  unfold y_ab
  split <;> omega
theorem y_as_b (w : Int → Int) (l n : Int) : y_as w l n = 0 ∨ y_as w l n = 1000000 := by
  unfold y_as
  split <;> omega
theorem y_mo_b {k v n : Int} (hk : k ≤ 40) (h : y_eb (k - 1) v) (hn : 0 ≤ n ∧ n ≤ 99) : y_eb k (y_mo v n) := by
  unfold y_eb at *
  unfold y_mo
  split <;> omega
theorem y_bop_b {w K N A : Int → Int} {lv ln sort life set k : Int} {fi la : Int × Int} (v : WV lv w) (hl : 0 ≤ ln ∧ ln ≤ 99) (hf : 0 ≤ life ∧ life < lv) (hk : 0 ≤ k) (hk4 : k ≤ 40) (hk0 : 0 ≤ K k) (sk : (K k = 1 ∨ K k = 4 → 0 ≤ A k ∧ A k < lv)) (sn : K k ≤ 5 → 0 ≤ N k ∧ N k ≤ 99) (h1 : 6 ≤ K k → y_eb k fi.1 ∧ y_eb k fi.2) (h2 : y_eb (k - 1) la.1 ∧ y_eb (k - 1) la.2) : y_eb k (y_bop w K N A ln sort life set k fi la).1 ∧ y_eb k (y_bop w K N A ln sort life set k fi la).2 := by
  have hb := y_bb_b sort life set
  unfold y_bop
  by_cases c0 : K k = 0
  · have := sn (by omega)
    rw [if_pos c0]; unfold y_eb; dsimp only; omega
  rw [if_neg c0]
  by_cases c1 : K k = 1
  · rw [if_pos c1]
    split
    · unfold y_eb; dsimp only; omega
    · unfold y_eb; dsimp only; omega
  rw [if_neg c1]
  by_cases c2 : K k = 2
  · rw [if_pos c2]; unfold y_eb; dsimp only; omega
  rw [if_neg c2]
  by_cases c3 : K k = 3
  · have := sn (by omega)
    rw [if_pos c3]
    have a1 := y_ab_b (set := set) (n := min ln (N k)) v hf (by omega)
    have a2 := y_as_b w life (min ln (N k))
    split
    · unfold y_eb; dsimp only; omega
    · unfold y_eb y_mo; dsimp only
      (repeat' split) <;> omega
  rw [if_neg c3]
  by_cases c4 : K k = 4
  · have := sn (by omega)
    rw [if_pos c4]
    have a1 := y_ab_b (set := set) (n := min ln (N k)) v (sk (Or.inr c4)) (by omega)
    have a2 := y_as_b w (A k) (min ln (N k))
    unfold y_eb; dsimp only; omega
  rw [if_neg c4]
  by_cases c5 : K k = 5
  · rw [if_pos c5]
    exact ⟨y_mo_b hk4 h2.1 (sn (by omega)), y_mo_b hk4 h2.2 (sn (by omega))⟩
  rw [if_neg c5]
  have h1' := h1 (by omega)
  unfold y_eb at *
  by_cases c6 : K k = 6
  · rw [if_pos c6]; dsimp only; omega
  · rw [if_neg c6]; dsimp only; omega
theorem y_bval_b {w K N A F : Int → Int} {lv ln sort life set m : Int} (v : WV lv w) (hl : 0 ≤ ln ∧ ln ≤ 99) (hf : 0 ≤ life ∧ life < lv) (hm4 : m ≤ 40) (sk : ∀ k, 0 ≤ k → k < m → y_sk K N A F lv k) : ∀ (n : Nat) (k : Int), 0 ≤ k → k < m → k < n → y_eb k (y_val (1000000, 1000000) (y_bop w K N A ln sort life set) F k).1 ∧ y_eb k (y_val (1000000, 1000000) (y_bop w K N A ln sort life set) F k).2
  | 0, k, h0, _, h1 => absurd h1 (by omega)
  | n + 1, k, h0, hm, h1 => by
    obtain ⟨s1, s2, s3, s4, s5⟩ := sk k h0 hm
    have hla : y_eb (k - 1) (y_tab (1000000, 1000000) (y_bop w K N A ln sort life set) F k.toNat (k - 1)).1 ∧ y_eb (k - 1) (y_tab (1000000, 1000000) (y_bop w K N A ln sort life set) F k.toNat (k - 1)).2 := by
      by_cases c : 1 ≤ k
      · rw [y_tab_val k.toNat (k - 1) (by omega) (by omega)]
        exact y_bval_b v hl hf hm4 sk n (k - 1) (by omega) (by omega) (by omega)
      · rw [show k = 0 by omega]; exact ⟨Or.inr rfl, Or.inr rfl⟩
    rw [y_val_eq h0]
    refine y_bop_b v hl hf h0 (by omega) s1.1 s3 s2 (fun c => ?_) hla
    have s4' := s4 c
    rw [y_tab_val k.toNat (F k) s4'.1 (by omega)]
    have := y_bval_b (ln := ln) (sort := sort) (life := life) (set := set) v hl hf hm4 sk n (F k) s4'.1 (by omega) (by omega)
    unfold y_eb at *
    omega
section
variable {fu : Nat} {L : zL} {M : zM}
theorem Rk_inSet_ok {set l : Int} (h : 0 ≤ l ∧ l < 8) : Rk_inSet fu L M set l = some (y_has set l) := by
  unfold Rk_inSet y_has
  rw [if_neg (by omega), if_pos h.2]
  split <;> rfl
theorem Mo_has_ok {set l : Int} : Mo_has fu L M set l = some (y_has set l) := by
  unfold Mo_has y_has
  split <;> rfl
theorem Rk_bornBehind_ok {sort life set : Int} (h : 0 ≤ life ∧ life < 8) : Rk_bornBehind fu L M sort life set = some (y_bb sort life set) := by
  unfold Rk_bornBehind y_bb
  rw [Rk_inSet_ok h, bd1_some]
  by_cases c : sort = 0
  · rw [if_pos c, if_pos c]
  · rw [if_neg c, if_neg c]
    by_cases c1 : sort = 1
    · rw [if_pos c1]
      rcases y_has_b set life with e | e
      · rw [e]; simp only [c1, Int.reduceEq, ↓reduceIte, and_false]
      · rw [e]; simp only [c1, Int.reduceEq, ↓reduceIte, and_self]
    · rw [if_neg c1, if_neg (fun z => c1 z.1)]
theorem Rk_ageBehind_ok {a B D P lv : Int} {w : Int → Int} (h : WR L M a B D P lv w) (v : WV lv w) {l n set : Int} (hl : 0 ≤ l ∧ l < lv) (hn : 0 ≤ n ∧ n ≤ 99) : Rk_ageBehind fu L M a l n set = some (y_ab w set l n) := by
  have hw := v.1
  have e1 := h.1.1
  unfold Rk_ageBehind y_ab
  rw [Rk_inSet_ok (by omega), bd1_some, Wr_yearsTo h v hl hn]
  rcases y_has_b set l with e | e
  · rw [e]; simp only [e1, Int.reduceEq, ↓reduceIte, bd1_some]
  · rw [e]; simp only [Int.reduceEq, ↓reduceIte]
theorem Rk_ageSure_ok {a B D P lv : Int} {w : Int → Int} (h : WR L M a B D P lv w) (v : WV lv w) {l n : Int} (hl : 0 ≤ l ∧ l < lv) (hn : 0 ≤ n ∧ n ≤ 99) : Rk_ageSure fu L M a l n = some (y_as w l n) := by
  have e1 := h.1.1
  unfold Rk_ageSure y_as
  rw [e1, if_pos rfl, Wr_yearsTo h v hl hn, bd1_some]
  split <;> rfl
theorem Rk_more_ok {v n k : Int} (h : y_eb k v) (hk : k ≤ 40) (hn : 0 ≤ n ∧ n ≤ 99) : Rk_more fu L M v n = some (y_mo v n) := by
  unfold y_eb at h
  have e : v < 1000000 → w32 (v + n) = v + n := fun _ => w32_id (by omega)
  unfold Rk_more y_mo
  by_cases c : v < 1000000
  · rw [if_pos c, if_pos c, e c]
  · rw [if_neg c, if_neg c]
end
theorem Rk_yearsBehind_ok {fu : Nat} (hf : 400 ≤ fu) {L : zL} (hL : Lay L) {M : zM} (hP : Ptr M) {a B D P lv : Int} {w : Int → Int} (h : WR L M a B D P lv w) (v : WV lv w) (hx : (a < 138 ∧ B < 138 ∧ D < 138 ∧ P < 138) ∨ (139 < a ∧ 139 < B ∧ 139 < D ∧ 139 < P))
    {K N A F : Int → Int} {m ln : Int} (hr : y_rk M K N A F m ln) (hm : 1 ≤ m ∧ m ≤ 31) (hl : 0 ≤ ln ∧ ln ≤ 99) (sk : ∀ k, 0 ≤ k → k < m → y_sk K N A F lv k) {sort life set : Int} (hlf : 0 ≤ life ∧ life < lv) :
    ∃ M', Rk_yearsBehind fu L M 133 a sort life set = some (M', max (y_val (1000000, 1000000) (y_bop w K N A ln sort life set) F (m - 1)).1 (y_bb sort life set)) ∧ (∀ x i, x ≠ 138 → x ≠ 139 → M' x i = M x i) := by
  have l33 : L 133 = (6, 0) := hL 133 (by decide)
  have l34 : L 134 = (101, 31) := hL 134 (by decide)
  have l35 : L 135 = (101, 31) := hL 135 (by decide)
  have l36 : L 136 = (101, 31) := hL 136 (by decide)
  have l37 : L 137 = (101, 31) := hL 137 (by decide)
  have l38 : L 138 = (101, 31) := hL 138 (by decide)
  have p0 : M 133 0 = 134 := hP (133, 0, 134) (by decide +kernel)
  have p1 : M 133 1 = 135 := hP (133, 1, 135) (by decide +kernel)
  have p2 : M 133 2 = 136 := hP (133, 2, 136) (by decide +kernel)
  have p3 : M 133 3 = 137 := hP (133, 3, 137) (by decide +kernel)
  have p4 : M 133 4 = 138 := hP (133, 4, 138) (by decide +kernel)
  have hw := v.1
  have hy := v.2.1
  have la := h.1.1
  have l39 : L 139 = (101, 31) := hL 139 (by decide)
  have p5 : M 133 5 = 139 := hP (133, 5, 139) (by decide +kernel)
  unfold Rk_yearsBehind
  rw [Rk_bornBehind_ok (by omega), bd1_some]
  obtain ⟨⟨M', y, z⟩, k, e, ⟨hJ1, hJ2, hJ3⟩⟩ := y_lpx (F := fun k (s : zM × Int × Int) i => Rk_yearsBehind_l20 fu L k s.1 133 a sort life set (y_bb sort life set) s.2.1 s.2.2 i) (N := m)
    (fun i s => (∀ x j, x ≠ 138 → x ≠ 139 → s.1 x j = M x j) ∧ (∀ j, 0 ≤ j → j < i → (s.1 138 j, s.1 139 j) = y_val (1000000, 1000000) (y_bop w K N A ln sort life set) F j) ∧ s.2 = y_tab (1000000, 1000000) (y_bop w K N A ln sort life set) F i.toNat (i - 1))
    (fun k s i h0 hN hJ => by
      obtain ⟨T, y, z⟩ := s
      obtain ⟨o, r1, r2⟩ := hJ
      dsimp only at o r1 r2
      have hW : WR L T a B D P lv w := h.of (fun x j hxx => o x j (by omega) (by omega))
      have a0 : T 133 0 = 134 := (o _ _ (by omega) (by omega)).trans p0
      have a1 : T 133 1 = 135 := (o _ _ (by omega) (by omega)).trans p1
      have a2 : T 133 2 = 136 := (o _ _ (by omega) (by omega)).trans p2
      have a3 : T 133 3 = 137 := (o _ _ (by omega) (by omega)).trans p3
      have a4 : T 133 4 = 138 := (o _ _ (by omega) (by omega)).trans p4
      have a5 : T 133 5 = 139 := (o _ _ (by omega) (by omega)).trans p5
      have a6 : T 133 6 = m := (o _ _ (by omega) (by omega)).trans hr.1
      obtain ⟨rK, rN, rA, rF⟩ := hr.2 i h0 hN
      rw [← o 134 i (by omega) (by omega)] at rK
      rw [← o 135 i (by omega) (by omega)] at rN
      rw [← o 136 i (by omega) (by omega)] at rA
      rw [← o 137 i (by omega) (by omega)] at rF
      obtain ⟨s1, s2, s3, s4, s5⟩ := sk i h0 hN
      have ew : w32 (i + 1) = i + 1 := w32_id (by omega)
      have i31 : i < 31 := by omega
      have ye := y_val_eq (d := ((1000000 : Int), (1000000 : Int))) (op := y_bop w K N A ln sort life set) (F := F) h0
      rw [← r2] at ye
      obtain ⟨fi, f1, f2⟩ := Rk_answerOf_ok (fu := fu) (M := T) hL (Or.inl rfl) (F i)
      obtain ⟨fj, g1, g2⟩ := Rk_answerOf_ok (fu := fu) (M := T) hL (Or.inr rfl) (F i)
      have hb2 := y_bval_b (ln := ln) (sort := sort) (life := life) (set := set) (F := F) v hl hlf (by omega) sk (i.toNat + 1)
      have hyb : 1 ≤ i → y_eb (i - 1) y ∧ y_eb (i - 1) z := fun c => by
        have t1 := y_tab_val (d := ((1000000 : Int), (1000000 : Int))) (op := y_bop w K N A ln sort life set) (F := F) i.toNat (i - 1) (by omega) (by omega)
        rw [← r2] at t1
        have t2 := hb2 (i - 1) (by omega) (by omega) (by omega)
        rw [← t1] at t2
        exact t2
      refine ⟨(mu (mu T 138 i (y_val (1000000, 1000000) (y_bop w K N A ln sort life set) F i).1) 139 i (y_val (1000000, 1000000) (y_bop w K N A ln sort life set) F i).2, y_val (1000000, 1000000) (y_bop w K N A ln sort life set) F i), ?_, ?_, ?_, ?_⟩
      · have hbe : ∀ y z, Rk_yearsBehind_b331 fu (Rk_yearsBehind_l20 fu L k) L T 133 a sort life set (y_bb sort life set) y z i = Rk_yearsBehind_l20 fu L k (mu (mu T 138 i y) 139 i z) 133 a sort life set (y_bb sort life set) y z (i + 1) := fun y z => by
          unfold Rk_yearsBehind_b331
          have c5 : mu T 138 i y 133 5 = 139 := (mx_ne (by omega)).trans a5
          simp only [l33, a4, l38, h0, i31, and_self, ↓reduceIte, ↓lt1_def, c5, l39, ew]
        show Rk_yearsBehind_s20 _ _ _ _ _ _ _ _ _ _ _ _ _ = Rk_yearsBehind_l20 _ _ _ (mu (mu T 138 i _) 139 i _) _ _ _ _ _ _ _ _ _
        unfold Rk_yearsBehind_s20 Rk_yearsBehind_b203
        simp only [l33, a6, hN, i31, l37, a3, h0, rF, a4, a5, ↓bd1_eq f1, ↓bd1_eq g1, a0, l34, rK, and_self, ↓reduceIte, a1, a2, l35, l36, la, rN, rA, ew, ↓lt1_def, hbe]
        generalize hg : y_tab (1000000, 1000000) (y_bop w K N A ln sort life set) F i.toNat (F i) = tf at ye
        have hfi : 6 ≤ K i → (fi, fj) = tf := fun c => by
          have s4' := s4 c
          rw [f2 s4'.1 (by omega), g2 s4'.1 (by omega), r1 (F i) s4'.1 s4'.2, ← hg]
          exact (y_tab_val i.toNat (F i) s4'.1 (by omega)).symm
        rw [ye]
        unfold y_bop
        rcases (show K i = 0 ∨ K i = 1 ∨ K i = 2 ∨ K i = 3 ∨ K i = 4 ∨ K i = 5 ∨ K i = 6 ∨ K i = 7 by omega) with c | c | c | c | c | c | c | c
        · rw [y_low_b (show ¬ (K i = 3 ∨ K i = 4) by omega)]
          simp only [c, Int.reduceEq, ↓reduceIte]
        · have hA := s3 (Or.inl c)
          have e := Rk_inSet_ok (fu := fu) (L := L) (M := T) (set := set) (l := A i) (by omega)
          rcases y_has_b set (A i) with e2 | e2
          · simp only [c, Int.reduceEq, ↓reduceIte, e, bd1_some, e2]
          · simp only [c, Int.reduceEq, ↓reduceIte, e, bd1_some, e2]
        · simp only [c, Int.reduceEq, ↓reduceIte]
        · have s2' := s2 (by omega)
          rw [y_low_a (Or.inl c)]
          have e := Rk_ageBehind_ok (fu := fu) hW v (l := life) (n := min ln (N i)) (set := set) hlf (by omega)
          have e2 := Rk_ageSure_ok (fu := fu) hW v (l := life) (n := min ln (N i)) hlf (by omega)
          have e3 := Rk_more_ok (fu := fu) (L := L) (M := T) (v := y_bb sort life set) (n := min ln (N i)) (k := 0) (by have := y_bb_b sort life set; unfold y_eb; omega) (by omega) (by omega)
          by_cases cs : sort = 0
          · simp only [c, cs, Int.reduceEq, ↓reduceIte]
            rw [cs] at hbe
            simp only [e, e2, bd1_some, hbe]
          · unfold Rk_laterAgeSure
            simp only [c, cs, Int.reduceEq, ↓reduceIte, e3, bd1_some]
            split <;> rw [bd1_some]
        · have s2' := s2 (by omega)
          rw [y_low_a (Or.inr c)]
          have e := Rk_ageBehind_ok (fu := fu) hW v (l := A i) (n := min ln (N i)) (set := set) (s3 (Or.inr c)) (by omega)
          have e2 := Rk_ageSure_ok (fu := fu) hW v (l := A i) (n := min ln (N i)) (s3 (Or.inr c)) (by omega)
          simp only [c, Int.reduceEq, ↓reduceIte, e, e2, bd1_some, hbe]
        · have s2' := s2 (by omega)
          have hyb' := hyb (s5 (by omega))
          rw [y_low_b (show ¬ (K i = 3 ∨ K i = 4) by omega)]
          have e := Rk_more_ok (fu := fu) (L := L) (M := T) hyb'.1 (by omega) s2'
          have e2 := Rk_more_ok (fu := fu) (L := L) (M := T) hyb'.2 (by omega) s2'
          simp only [c, Int.reduceEq, ↓reduceIte, e, e2, bd1_some, hbe]
        · rw [← hfi (by omega)]
          simp only [c, Int.reduceEq, ↓reduceIte]
        · rw [← hfi (by omega)]
          simp only [c, Int.reduceEq, ↓reduceIte]
      · intro x j hxx hxy
        exact (mx_ne (by omega)).trans ((mx_ne (by omega)).trans (o x j hxx hxy))
      · intro j j0 j1
        show (mu (mu T 138 i (y_val (1000000, 1000000) (y_bop w K N A ln sort life set) F i).1) 139 i (y_val (1000000, 1000000) (y_bop w K N A ln sort life set) F i).2 138 j, mu (mu T 138 i (y_val (1000000, 1000000) (y_bop w K N A ln sort life set) F i).1) 139 i (y_val (1000000, 1000000) (y_bop w K N A ln sort life set) F i).2 139 j) = _
        by_cases c : j = i
        · subst c
          simp (disch := omega) only [mx_ne, mx_same]
        · simp (disch := omega) only [mx_ne]
          exact r1 j j0 (by omega)
      · show _ = y_tab _ _ _ (i + 1).toNat (i + 1 - 1)
        rw [show i + 1 - 1 = i by omega]
        exact (y_tab_val _ _ h0 (by omega)).symm) m.toNat fu (M, 1000000, 1000000) 0 (by omega) (by omega) (by omega) ⟨fun _ _ _ _ => rfl, fun j j0 j1 => absurd j1 (by omega), rfl⟩
  dsimp only at e hJ1 hJ2 hJ3
  have ey : (y, z) = y_val (1000000, 1000000) (y_bop w K N A ln sort life set) F (m - 1) := by
    rw [hJ3]; exact y_tab_val _ _ (by omega) (by omega)
  rw [← ey]
  refine ⟨M', ?_, hJ1⟩
  refine e.trans ?_
  show Rk_yearsBehind_s20 _ _ _ _ _ _ _ _ _ _ _ _ _ = _
  unfold Rk_yearsBehind_s20
  rw [l33, if_pos rfl, hJ1 133 6 (by omega) (by omega), hr.1, if_neg (by omega)]

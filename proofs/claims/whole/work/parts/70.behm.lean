/-! ===== pure: part 70: how far BEHIND, the model ===== -/
def y_T (M : zM) (s h q : Int) : zM := fun b j => if b = 154 then (if j = 30 then s else if j = 43 then h else if j = 44 then q else M b j) else M b j
theorem y_T_30 (M : zM) (s h q z : Int) : mu (y_T M s h q) 154 30 z = y_T M z h q := by
  funext b j
  unfold mu y_T
  (repeat' split) <;> first | rfl | omega
theorem y_T_43 (M : zM) (s h q z : Int) : mu (y_T M s h q) 154 43 z = y_T M s z q := by
  funext b j
  unfold mu y_T
  (repeat' split) <;> first | rfl | omega
theorem y_T_44 (M : zM) (s h q z : Int) : mu (y_T M s h q) 154 44 z = y_T M s h z := by
  funext b j
  unfold mu y_T
  (repeat' split) <;> first | rfl | omega
theorem y_T_r {M : zM} {s h q b j : Int} (c : ¬ (b = 154 ∧ (j = 30 ∨ j = 43 ∨ j = 44))) : y_T M s h q b j = M b j := by
  unfold y_T
  (repeat' split) <;> first | rfl | omega
theorem y_T_s {M : zM} {s h q : Int} : y_T M s h q 154 30 = s := rfl
theorem y_T_h {M : zM} {s h q : Int} : y_T M s h q 154 43 = h := rfl
theorem y_T_q {M : zM} {s h q : Int} : y_T M s h q 154 44 = q := rfl
theorem y_T_id (M : zM) : y_T M (M 154 30) (M 154 43) (M 154 44) = M := by
  funext b j
  unfold y_T
  by_cases c : b = 154
  · subst c
    (repeat' split) <;> first | rfl | (rename_i h; rw [h])
  · rw [if_neg c]
def y_me (v : Int) : Int := if v = 1000000 then 1048576 else v
theorem y_me_max {k a b : Int} (hk : k ≤ 40) (h : y_eb k a) (h' : y_eb k b) : y_me (max a b) = max (y_me b) (y_me a) := by
  unfold y_eb at *
  unfold y_me
  (repeat' split) <;> omega
theorem y_me_min {k a b : Int} (hk : k ≤ 40) (h : y_eb k a) (h' : y_eb k b) : y_me (min a b) = min (y_me b) (y_me a) := by
  unfold y_eb at *
  unfold y_me
  (repeat' split) <;> omega
theorem y_me_min2 {k a b : Int} (hk : k ≤ 40) (h : y_eb k a) (h' : y_eb k b) : min (y_me a) (y_me b) = y_me (min a b) := by
  unfold y_eb at *
  unfold y_me
  (repeat' split) <;> omega
theorem y_eb_up {k k' v : Int} (h : y_eb k v) (hk : k ≤ k') : y_eb k' v := by
  unfold y_eb at *
  omega
theorem y_eb_max {k a b : Int} (h : y_eb k a) (h' : y_eb k b) (hk : k ≤ 40) : y_eb k (max a b) := by
  unfold y_eb at *
  omega
theorem y_eb_min {k a b : Int} (h : y_eb k a) (h' : y_eb k b) (hk : k ≤ 40) : y_eb k (min a b) := by
  unfold y_eb at *
  omega
/-- what the model's reckoning of BEHIND stands on -/
def y_bn (L : zL) (M : zM) (lv ln sort life set : Int) (w : Int → Int) : Prop :=
  L 164 = (101, 8) ∧ (M 154 22 = 164 ∧ M 154 40 = sort ∧ M 154 41 = life ∧ M 154 42 = set ∧ M 154 32 = ln) ∧ (∀ l, 0 ≤ l → l < lv → M 164 l = - w (2 + l) ∧ -99 ≤ w (2 + l) ∧ w (2 + l) ≤ 0) ∧ (0 ≤ life ∧ life < lv) ∧ 0 ≤ ln ∧ ln ≤ 99
section
variable {fu : Nat} {L : zL} {M : zM}
theorem Mo_are_ok (l4 : L 154 = (13, 0)) {s h q a b : Int} : Mo_are fu L (y_T M s h q) 154 a b = some (y_T M s a b) := by
  unfold Mo_are
  rw [l4, if_pos rfl, lt1_def, y_T_43, lt1_def, y_T_44]
theorem Mo_added_ok {v n k : Int} (h : y_eb k v) (hk : k ≤ 40) (hn : 0 ≤ n ∧ n ≤ 99) : Mo_added fu L M (y_me v) n = some (y_me (y_mo v n)) := by
  unfold y_eb at h
  unfold Mo_added
  by_cases c : v = 1000000
  · have e1 : y_me v = 1048576 := if_pos c
    have e2 : y_mo v n = 1000000 := by unfold y_mo; rw [if_neg (by omega)]
    rw [e1, e2, if_neg (by decide)]; rfl
  · have e1 : y_me v = v := if_neg c
    have e2 : y_mo v n = v + n := by unfold y_mo; rw [if_pos (by omega)]
    rw [e1, e2, if_pos (by omega), w32_id (by omega)]
    unfold y_me
    rw [if_neg (by omega)]
theorem Mo_bornBy_ok (l4 : L 154 = (13, 0)) {sort life set : Int} (h40 : M 154 40 = sort) (h41 : M 154 41 = life) (h42 : M 154 42 = set) : Mo_bornBy fu L M 154 = some (y_me (y_bb sort life set)) := by
  unfold Mo_bornBy y_bb
  rw [l4, if_pos rfl, h40, h41, h42, Mo_has_ok, bd1_some]
  by_cases c : sort = 0
  · rw [if_pos c, if_pos c]; rfl
  · rw [if_neg c, if_neg c]
    by_cases c1 : sort = 1
    · rw [if_pos c1]
      rcases y_has_b set life with e | e
      · rw [e]; simp only [c1, Int.reduceEq, ↓reduceIte, and_false]; rfl
      · rw [e]; simp only [c1, Int.reduceEq, ↓reduceIte, and_self]; rfl
    · rw [if_neg c1, if_neg (fun z => c1 z.1)]; rfl
theorem Mo_laysReaches_ok (l4 : L 154 = (13, 0)) (l64 : L 164 = (101, 8)) {w : Int → Int} {s h q l n set : Int} (h22 : M 154 22 = 164) (h42 : M 154 42 = set) (hl : 0 ≤ l ∧ l < 8) (hn : 0 ≤ n ∧ n ≤ 99) (hw : M 164 l = - w (2 + l) ∧ -99 ≤ w (2 + l) ∧ w (2 + l) ≤ 0) :
    Mo_laysReaches fu L (y_T M s h q) 154 l n = some (y_T M s (y_me (y_ab w set l n)) (y_me (y_as w l n))) := by
  have e22 : y_T M s h q 154 22 = 164 := (y_T_r (by omega)).trans h22
  have e42 : y_T M s h q 154 42 = set := (y_T_r (by omega)).trans h42
  have e64 : y_T M s h q 164 l = - w (2 + l) := (y_T_r (by omega)).trans hw.1
  have ew : w32 (n - - w (2 + l)) = w (2 + l) + n := by rw [w32_id (by omega)]; omega
  unfold Mo_laysReaches Mo_laysReaches_b15 Mo_laysReaches_b44 y_ab y_as
  by_cases c : - w (2 + l) < n
  · have m1 : max 0 (w (2 + l) + n) = w (2 + l) + n := by omega
    have m2 : ¬ w (2 + l) + n = 0 := by omega
    have m3 : y_me (w (2 + l) + n) = w (2 + l) + n := if_neg (by omega)
    have m4 : y_me 1000000 = 1048576 := rfl
    have m5 : y_me 0 = 0 := rfl
    rcases y_has_b set l with e | e
    · simp only [l4, e22, l64, hl.1, hl.2, and_self, ↓reduceIte, e64, c, e42, Mo_has_ok, bd1_some, e, ew, Mo_are_ok l4, m1, m2, m3, m4, Int.reduceEq]
    · simp only [l4, e22, l64, hl.1, hl.2, and_self, ↓reduceIte, e64, c, e42, Mo_has_ok, bd1_some, e, ew, Mo_are_ok l4, m1, m2, m4, m5, Int.reduceEq]
  · have m1 : max 0 (w (2 + l) + n) = 0 := by omega
    have m5 : y_me 0 = 0 := rfl
    simp only [l4, e22, l64, hl.1, hl.2, and_self, ↓reduceIte, e64, c, bd1_some, Mo_are_ok l4, m1, m5, Int.reduceEq, ite_self]
theorem y_test {S K N A F w : Int → Int} {lv e e' st c ln sort life set : Int} (hf : 400 ≤ fu) (he : e' ≤ e) (he3 : e ≤ 310) (g : y_go L M c e') (hS : ∀ i, 0 ≤ i → i < e → M 162 (c + i) = S i) (ws : y_ws S e) (v : WV lv w) (wn : y_bn L M lv ln sort life set w) (hst : st ≤ 31)
    (yb : ∀ k, 0 ≤ k → k < st → y_eb k (y_val (1000000, 1000000) (y_bop w K N A ln sort life set) F k).1 ∧ y_eb k (y_val (1000000, 1000000) (y_bop w K N A ln sort life set) F k).2) {md dp : Nat} {i j p q : Int} (h : y_seg S K N A F lv e st md dp i j p q) : j ≤ e' →
    (md = 0 → ∀ r, 3 * dp + 1 ≤ r → ∀ h0 q0, (zg_Mo_testAll fu L r).2.1 (y_T M (c + i) h0 q0) 154 = some (y_T M (c + j) (y_me (y_val (1000000, 1000000) (y_bop w K N A ln sort life set) F (q - 1)).1) (y_me (y_val (1000000, 1000000) (y_bop w K N A ln sort life set) F (q - 1)).2))) ∧
    (md = 1 → ∀ r, 3 * dp + 1 ≤ r → ∀ h0 q0, ∃ n : Nat, fu ≤ n + (j - i) ∧ Mo_testWay_r fu (zg_Mo_testAll fu L r) L (y_T M (c + i) h0 q0) 154 = Mo_testWay_l4 fu (zg_Mo_testAll fu L r) L n (y_T M (c + j) (y_me (y_val (1000000, 1000000) (y_bop w K N A ln sort life set) F (q - 1)).1) (y_me (y_val (1000000, 1000000) (y_bop w K N A ln sort life set) F (q - 1)).2)) 154) ∧
    (md = 2 → ∀ r, 3 * dp + 2 ≤ r → ∀ h0 q0, ∃ n : Nat, fu ≤ n + (j - i) ∧ Mo_testAll_r fu (zg_Mo_testAll fu L r) L (y_T M (c + i) h0 q0) 154 = Mo_testAll_l4 fu (zg_Mo_testAll fu L r) L n (y_T M (c + j) (y_me (y_val (1000000, 1000000) (y_bop w K N A ln sort life set) F (q - 1)).1) (y_me (y_val (1000000, 1000000) (y_bop w K N A ln sort life set) F (q - 1)).2)) 154) := by
  have hg := g
  obtain ⟨l4, l62, p18, p31, c0, c1⟩ := g
  obtain ⟨l64, ⟨m22, m40, m41, m42, m32⟩, hage, hlf, hln⟩ := wn
  have hw := v.1
  have hy := v.2.1
  have T18 : ∀ s h q, y_T M s h q 154 18 = 162 := fun s h q => (y_T_r (by omega)).trans p18
  have T62 : ∀ s h q j, y_T M s h q 162 j = M 162 j := fun s h q j => y_T_r (by omega)
  have T40 : ∀ s h q, y_T M s h q 154 40 = sort := fun s h q => (y_T_r (by omega)).trans m40
  have T41 : ∀ s h q, y_T M s h q 154 41 = life := fun s h q => (y_T_r (by omega)).trans m41
  have T42 : ∀ s h q, y_T M s h q 154 42 = set := fun s h q => (y_T_r (by omega)).trans m42
  have T32 : ∀ s h q, y_T M s h q 154 32 = ln := fun s h q => (y_T_r (by omega)).trans m32
  have Tsb : ∀ s h q, Mo_bornBy fu L (y_T M s h q) 154 = some (y_me (y_bb sort life set)) := fun s h q => Mo_bornBy_ok l4 (T40 s h q) (T41 s h q) (T42 s h q)
  have Tg : ∀ s h q, y_go L (y_T M s h q) c e' := fun s h q => ⟨l4, l62, T18 s h q, (y_T_r (by omega)).trans p31, c0, c1⟩
  have TS : ∀ s h q k, 0 ≤ k → k < e → y_T M s h q 162 (c + k) = S k := fun s h q k h0 h1 => (T62 s h q _).trans (hS k h0 h1)
  have m0 : y_me 0 = 0 := rfl
  have mE : y_me 1000000 = 1048576 := rfl
  refine y_seg_ind (S := S) (K := K) (N := N) (A := A) (F := F) (lv := lv) (e := e) (st := st) (fun md dp i j p q => j ≤ e' →
    (md = 0 → ∀ r, 3 * dp + 1 ≤ r → ∀ h0 q0, (zg_Mo_testAll fu L r).2.1 (y_T M (c + i) h0 q0) 154 = some (y_T M (c + j) (y_me (y_val (1000000, 1000000) (y_bop w K N A ln sort life set) F (q - 1)).1) (y_me (y_val (1000000, 1000000) (y_bop w K N A ln sort life set) F (q - 1)).2))) ∧
    (md = 1 → ∀ r, 3 * dp + 1 ≤ r → ∀ h0 q0, ∃ n : Nat, fu ≤ n + (j - i) ∧ Mo_testWay_r fu (zg_Mo_testAll fu L r) L (y_T M (c + i) h0 q0) 154 = Mo_testWay_l4 fu (zg_Mo_testAll fu L r) L n (y_T M (c + j) (y_me (y_val (1000000, 1000000) (y_bop w K N A ln sort life set) F (q - 1)).1) (y_me (y_val (1000000, 1000000) (y_bop w K N A ln sort life set) F (q - 1)).2)) 154) ∧
    (md = 2 → ∀ r, 3 * dp + 2 ≤ r → ∀ h0 q0, ∃ n : Nat, fu ≤ n + (j - i) ∧ Mo_testAll_r fu (zg_Mo_testAll fu L r) L (y_T M (c + i) h0 q0) 154 = Mo_testAll_l4 fu (zg_Mo_testAll fu L r) L n (y_T M (c + j) (y_me (y_val (1000000, 1000000) (y_bop w K N A ln sort life set) F (q - 1)).1) (y_me (y_val (1000000, 1000000) (y_bop w K N A ln sort life set) F (q - 1)).2)) 154)) ?_ ?_ ?_ ?_ ?_ ?_ ?_ h
  · intro dp i p k n l k0 k1 n0 n1 l0 l1 hkl i0 i1 p0 p1 hs hK hN hj
    refine ⟨fun _ r hr h0 q0 => ?_, fun c => absurd c (by decide), fun c => absurd c (by decide)⟩
    obtain ⟨r, rfl⟩ : ∃ r', r = r' + 1 := ⟨r - 1, by omega⟩
    show Mo_testFact_r _ _ _ _ _ = _
    have g2 : 0 ≤ c + i := by omega
    have g3 : c + i < 2597 := by omega
    have hsi : M 162 (c + i) = S i := hS i i0 i1
    obtain ⟨d1, d2, d3⟩ := y_dec hs k0 (by omega) l0 (by omega) n0 n1
    have ew : w32 (c + i + 1) = c + (i + 1) := by rw [w32_id (by omega)]; omega
    have mn : y_me n = n := if_neg (by omega)
    have hmin : min n ln = min ln n := by omega
    unfold Mo_testFact_r Mo_testFact_b116
    simp only [l4, T18, y_T_s, l62, g2, g3, and_self, ↓reduceIte, ↓lt1_def, T62, hsi, d1, d2, d3, ew, y_T_30, T32, hmin]
    rw [show p + 1 - 1 = p by omega, y_val_eq p0]
    unfold y_bop
    rw [hK, hN]
    rcases (show k = 0 ∨ k = 1 ∨ k = 2 ∨ k = 3 ∨ k = 4 by omega) with rfl | rfl | rfl | rfl | rfl
    · simp only [Int.reduceEq, ↓reduceIte, Mo_are_ok l4, bd1_some, mn]
    · obtain ⟨hlv, hA⟩ := hkl (Or.inl rfl)
      rw [hA]
      rcases y_has_b set l with e | e
      · simp only [Int.reduceEq, ↓reduceIte, T42, Mo_has_ok, e, bd1_some, Mo_are_ok l4, m0, mE]
      · simp only [Int.reduceEq, ↓reduceIte, T42, Mo_has_ok, e, bd1_some, Mo_are_ok l4, m0, mE]
    · simp only [Int.reduceEq, ↓reduceIte, Tsb, bd1_some, Mo_are_ok l4]
    · by_cases cs : sort = 0
      · have e := Mo_laysReaches_ok (fu := fu) (M := M) l4 l64 (s := c + (i + 1)) (h := h0) (q := q0) (l := life) (n := min ln n) (set := set) (w := w) m22 m42 (by omega) (by omega) (hage life hlf.1 hlf.2)
        simp only [Int.reduceEq, ↓reduceIte, T40, T41, cs, e, bd1_some]
      · have e := Mo_added_ok (fu := fu) (L := L) (M := y_T M (c + (i + 1)) h0 q0) (v := y_bb sort life set) (n := min ln n) (k := 0) (by have := y_bb_b sort life set; unfold y_eb; omega) (by omega) (by omega)
        simp only [Int.reduceEq, ↓reduceIte, T40, cs, Tsb, bd1_some, e, Mo_are_ok l4]
        split
        · rfl
        · rfl
    · obtain ⟨hlv, hA⟩ := hkl (Or.inr rfl)
      have e := Mo_laysReaches_ok (fu := fu) (M := M) l4 l64 (s := c + (i + 1)) (h := h0) (q := q0) (l := l) (n := min ln n) (set := set) (w := w) m22 m42 ⟨l0, l1⟩ (by omega) (hage l l0 hlv)
      rw [hA]
      simp only [Int.reduceEq, ↓reduceIte, e, bd1_some]
  · intro dp i j p q n h ih n0 n1 i0 q1 hs hK hN hj
    have hbd := y_seg_b h
    refine ⟨fun _ r hr h0 q0 => ?_, fun c => absurd c (by decide), fun c => absurd c (by decide)⟩
    obtain ⟨r, rfl⟩ : ∃ r', r = r' + 1 := ⟨r - 1, by omega⟩
    have ih2 := (ih hj).1 rfl r (by omega)
    show Mo_testFact_r _ _ _ _ _ = _
    have g2 : 0 ≤ c + i := by omega
    have g3 : c + i < 2597 := by omega
    have hsi : M 162 (c + i) = S i := hS i i0 (by omega)
    obtain ⟨d1, d2, d3⟩ := y_dec (n := n) (l := 0) (k := 5) (show S i = 10000 * n + 100 * 0 + 5 by omega) (by omega) (by omega) (by omega) (by omega) n0 n1
    have ew : w32 (c + i + 1) = c + (i + 1) := by rw [w32_id (by omega)]; omega
    have b2 := yb (q - 1) (by omega) (by omega)
    have q01 : (1 : Int) ≤ q := by omega
    unfold Mo_testFact_r
    simp only [l4, T18, y_T_s, l62, g2, g3, and_self, ↓reduceIte, ↓lt1_def, T62, hsi, d1, d2, d3, ew, y_T_30, Int.reduceEq, ih2, bd1_some, y_T_h, y_T_q, Mo_added_ok b2.1 (show q - 1 ≤ 40 by omega) (show 0 ≤ n ∧ n ≤ 99 from ⟨n0, n1⟩), Mo_added_ok b2.2 (show q - 1 ≤ 40 by omega) (show 0 ≤ n ∧ n ≤ 99 from ⟨n0, n1⟩), Mo_are_ok l4]
    rw [show q + 1 - 1 = q by omega, y_val_1 q01]
    generalize y_val (1000000, 1000000) (y_bop w K N A ln sort life set) F (q - 1) = z at b2
    unfold y_bop
    rw [hK, hN]
    simp only [Int.reduceEq, ↓reduceIte]
  · intro dp i j p q h ih i0 j1 hs hs2 hj
    have hbd := y_seg_b h
    refine ⟨fun _ r hr h0 q0 => ?_, fun c => absurd c (by decide), fun c => absurd c (by decide)⟩
    obtain ⟨r, rfl⟩ : ∃ r', r = r' + 1 + 1 := ⟨r - 2, by omega⟩
    obtain ⟨n, hn, ih2⟩ := (ih (by omega)).2.2 rfl r (by omega) h0 q0
    show Mo_testFact_r _ _ _ _ _ = _
    have g2 : 0 ≤ c + i := by omega
    have g3 : c + i < 2597 := by omega
    have hsi : M 162 (c + i) = S i := hS i i0 (by omega)
    obtain ⟨d1, d2, d3⟩ := y_dec (n := 0) (l := 0) (k := 6) (show S i = 10000 * 0 + 100 * 0 + 6 by omega) (by omega) (by omega) (by omega) (by omega) (by omega) (by omega)
    have ew : w32 (c + i + 1) = c + (i + 1) := by rw [w32_id (by omega)]; omega
    have ew2 : w32 (c + j + 1) = c + (j + 1) := by rw [w32_id (by omega)]; omega
    obtain ⟨n, rfl⟩ : ∃ n', n = n' + 1 := ⟨n - 1, by omega⟩
    have e3 : (zg_Mo_testAll fu L (r + 1)).1 (y_T M (c + (i + 1)) h0 q0) 154 = some (y_T M (c + j) (y_me (y_val (1000000, 1000000) (y_bop w K N A ln sort life set) F (q - 1)).1) (y_me (y_val (1000000, 1000000) (y_bop w K N A ln sort life set) F (q - 1)).2)) := by
      refine ih2.trans ?_
      show Mo_testAll_s4 _ _ _ _ _ _ = _
      unfold Mo_testAll_s4
      rw [l4, if_pos rfl, Mo_passes_n (k := 9) (i := j) (S := S) (Tg _ _ _) y_T_s (by omega) (by omega) he ws (TS _ _ _) (by omega) (fun _ => by omega), bd2_some, if_pos rfl, y_T_30]
    unfold Mo_testFact_r
    simp only [l4, T18, y_T_s, l62, g2, g3, and_self, ↓reduceIte, ↓lt1_def, T62, hsi, d1, d2, d3, ew, y_T_30, Int.reduceEq, e3, bd1_some, ew2]
  · intro dp i j p q h ih hj
    have hbd := y_seg_b h
    refine ⟨fun c => absurd c (by decide), fun _ r hr h0 q0 => ?_, fun c => absurd c (by decide)⟩
    have ih2 := (ih hj).1 rfl r (by omega) h0 q0
    refine ⟨fu, by omega, ?_⟩
    unfold Mo_testWay_r
    rw [l4, if_pos rfl, ih2, bd1_some]
  · intro dp i m j p r0 q h ih hs h' ih' q1 hK hF hj
    have hbd := y_seg_b h
    have hbd' := y_seg_b h'
    refine ⟨fun c => absurd c (by decide), fun _ r hr h0 q0 => ?_, fun c => absurd c (by decide)⟩
    obtain ⟨n, hn, ih2⟩ := (ih (by omega)).2.1 rfl r hr h0 q0
    have ih3 := (ih' hj).1 rfl r (by omega)
    obtain ⟨n, rfl⟩ : ∃ n', n = n' + 1 := ⟨n - 1, by omega⟩
    refine ⟨n, by omega, ih2.trans ?_⟩
    have b1 := yb (r0 - 1) (by omega) (by omega)
    have b2 := yb (q - 1) (by omega) (by omega)
    have u1 := y_eb_up b1.1 (show r0 - 1 ≤ q - 1 by omega)
    have u2 := y_eb_up b1.2 (show r0 - 1 ≤ q - 1 by omega)
    show Mo_testWay_s4 _ _ _ _ _ _ = _
    unfold Mo_testWay_s4
    have hs2 : M 162 (c + m) = 8 := (hS m (by omega) (by omega)).trans hs
    rw [l4, if_pos rfl, Mo_passes_y (k := 8) (i := m) (Tg _ _ _) y_T_s (by omega) (by omega) ((T62 _ _ _ _).trans hs2) (by omega), bd2_some, if_neg (by decide), y_T_30, lt1_def, lt1_def, ih3, bd1_some, y_T_h, y_T_q, y_T_h, y_T_q, Mo_are_ok l4, bd1_some, ← y_me_max (by omega) u1 b2.1, ← y_me_max (by omega) u2 b2.2]
    have hq := y_val_2 (d := ((1000000 : Int), (1000000 : Int))) (op := y_bop w K N A ln sort life set) (F := F) (p := q) (by omega) (by omega) (by omega)
    rw [show q + 1 - 1 = q by omega, hq, hF]
    have ev : y_bop w K N A ln sort life set q = fun fi la => (max fi.1 la.1, max fi.2 la.2) := by
      funext fi la
      unfold y_bop
      rw [hK]
      simp only [Int.reduceEq, ↓reduceIte]
    rw [ev]
  · intro dp i j p q h ih hs hj
    have hbd := y_seg_b h
    refine ⟨fun c => absurd c (by decide), fun c => absurd c (by decide), fun _ r hr h0 q0 => ?_⟩
    obtain ⟨r, rfl⟩ : ∃ r', r = r' + 1 := ⟨r - 1, by omega⟩
    obtain ⟨n, hn, ih2⟩ := (ih hj).2.1 rfl r (by omega) h0 q0
    obtain ⟨n, rfl⟩ : ∃ n', n = n' + 1 := ⟨n - 1, by omega⟩
    refine ⟨fu, by omega, ?_⟩
    have e3 : (zg_Mo_testAll fu L (r + 1)).2.2 (y_T M (c + i) h0 q0) 154 = some (y_T M (c + j) (y_me (y_val (1000000, 1000000) (y_bop w K N A ln sort life set) F (q - 1)).1) (y_me (y_val (1000000, 1000000) (y_bop w K N A ln sort life set) F (q - 1)).2)) := by
      refine ih2.trans ?_
      show Mo_testWay_s4 _ _ _ _ _ _ = _
      unfold Mo_testWay_s4
      rw [l4, if_pos rfl, Mo_passes_n (k := 8) (i := j) (S := S) (Tg _ _ _) y_T_s (by omega) (by omega) he ws (TS _ _ _) (by omega) (fun _ => hs (by omega)), bd2_some, if_pos rfl, y_T_30]
    unfold Mo_testAll_r
    rw [l4, if_pos rfl, e3, bd1_some]
  · intro dp i m j p r0 q h ih hs h' ih' hn8 q1 hK hF hj
    have hbd := y_seg_b h
    have hbd' := y_seg_b h'
    refine ⟨fun c => absurd c (by decide), fun c => absurd c (by decide), fun _ r hr h0 q0 => ?_⟩
    obtain ⟨n, hn, ih2⟩ := (ih (by omega)).2.2 rfl r hr h0 q0
    obtain ⟨r, rfl⟩ : ∃ r', r = r' + 1 := ⟨r - 1, by omega⟩
    obtain ⟨n, rfl⟩ : ∃ n', n = n' + 1 := ⟨n - 1, by omega⟩
    have e3 : ∀ h0 q0, (zg_Mo_testAll fu L (r + 1)).2.2 (y_T M (c + (m + 1)) h0 q0) 154 = some (y_T M (c + j) (y_me (y_val (1000000, 1000000) (y_bop w K N A ln sort life set) F (q - 1)).1) (y_me (y_val (1000000, 1000000) (y_bop w K N A ln sort life set) F (q - 1)).2)) := fun h0 q0 => by
      obtain ⟨n3, hn3, ih3⟩ := (ih' hj).2.1 rfl r (by omega) h0 q0
      obtain ⟨n3, rfl⟩ : ∃ n', n3 = n' + 1 := ⟨n3 - 1, by omega⟩
      refine ih3.trans ?_
      show Mo_testWay_s4 _ _ _ _ _ _ = _
      unfold Mo_testWay_s4
      rw [l4, if_pos rfl, Mo_passes_n (k := 8) (i := j) (S := S) (Tg _ _ _) y_T_s (by omega) (by omega) he ws (TS _ _ _) (by omega) (fun _ => hn8 (by omega)), bd2_some, if_pos rfl, y_T_30]
    refine ⟨n, by omega, ih2.trans ?_⟩
    have b1 := yb (r0 - 1) (by omega) (by omega)
    have b2 := yb (q - 1) (by omega) (by omega)
    have u1 := y_eb_up b1.1 (show r0 - 1 ≤ q - 1 by omega)
    have u2 := y_eb_up b1.2 (show r0 - 1 ≤ q - 1 by omega)
    show Mo_testAll_s4 _ _ _ _ _ _ = _
    unfold Mo_testAll_s4
    have hs2 : M 162 (c + m) = 9 := (hS m (by omega) (by omega)).trans hs
    rw [l4, if_pos rfl, Mo_passes_y (k := 9) (i := m) (Tg _ _ _) y_T_s (by omega) (by omega) ((T62 _ _ _ _).trans hs2) (by omega), bd2_some, if_neg (by decide), y_T_30, lt1_def, lt1_def, e3, bd1_some, y_T_h, y_T_q, y_T_h, y_T_q, lt1_def, Mo_are_ok l4, bd1_some, ← y_me_max (by omega) u1 b2.1, ← y_me_min (by omega) u2 b2.2, y_me_min2 (show q - 1 ≤ 40 by omega) (y_eb_max u1 b2.1 (by omega)) (y_eb_min u2 b2.2 (by omega))]
    have hq := y_val_2 (d := ((1000000 : Int), (1000000 : Int))) (op := y_bop w K N A ln sort life set) (F := F) (p := q) (by omega) (by omega) (by omega)
    rw [show q + 1 - 1 = q by omega, hq, hF]
    have ev : y_bop w K N A ln sort life set q = fun fi la => (min (max fi.1 la.1) (min fi.2 la.2), min fi.2 la.2) := by
      funext fi la
      unfold y_bop
      rw [hK]
      simp only [Int.reduceEq, ↓reduceIte]
    rw [ev]
theorem Mo_testAll_top {S K N A F w : Int → Int} {lv e e' st c ln sort life set : Int} (hf : 400 ≤ fu) (g : y_go L M c e') (hS : y_sg M S c e) (v : WV lv w) (wn : y_bn L M lv ln sort life set w) (hst : st ≤ 31)
    (yb : ∀ k, 0 ≤ k → k < st → y_eb k (y_val (1000000, 1000000) (y_bop w K N A ln sort life set) F k).1 ∧ y_eb k (y_val (1000000, 1000000) (y_bop w K N A ln sort life set) F k).2) {i p q : Int} (h : y_top S K N A F lv e st i e' p q) (hi : M 154 30 = c + i) :
    Mo_testAll fu L M 154 = some (y_T M (c + e') (y_me (y_val (1000000, 1000000) (y_bop w K N A ln sort life set) F (q - 1)).1) (y_me (y_val (1000000, 1000000) (y_bop w K N A ln sort life set) F (q - 1)).2)) := by
  have hb := y_top_b h
  have he3 := hS.2.2
  have eM : M = y_T M (c + i) (M 154 43) (M 154 44) := by rw [← hi]; exact (y_T_id M).symm
  have l4 := g.1
  have Tg : ∀ s h q, y_go L (y_T M s h q) c e' := fun s h q => ⟨g.1, g.2.1, (y_T_r (by omega)).trans g.2.2.1, (y_T_r (by omega)).trans g.2.2.2.1, g.2.2.2.2⟩
  have TS : ∀ s h q k, 0 ≤ k → k < e → y_T M s h q 162 (c + k) = S k := fun s h q k h0 h1 => (y_T_r (by omega)).trans (hS.1 k h0 h1)
  show Mo_testAll_r fu (zg_Mo_testAll fu L 39) L M 154 = _
  rcases h with h | h
  · obtain ⟨n, hn, e1⟩ := (y_test hf hb.1.2.2 hS.2.2 g hS.1 hS.2.1 v wn hst yb h (by omega)).2.1 rfl 38 (by omega) (M 154 43) (M 154 44)
    obtain ⟨n, rfl⟩ : ∃ n', n = n' + 1 := ⟨n - 1, by omega⟩
    have e3 : (zg_Mo_testAll fu L 39).2.2 (y_T M (c + i) (M 154 43) (M 154 44)) 154 = some (y_T M (c + e') (y_me (y_val (1000000, 1000000) (y_bop w K N A ln sort life set) F (q - 1)).1) (y_me (y_val (1000000, 1000000) (y_bop w K N A ln sort life set) F (q - 1)).2)) := by
      refine e1.trans ?_
      show Mo_testWay_s4 _ _ _ _ _ _ = _
      unfold Mo_testWay_s4
      rw [l4, if_pos rfl, Mo_passes_n (k := 8) (i := e') (S := S) (Tg _ _ _) y_T_s (by omega) (by omega) hb.1.2.2 hS.2.1 (TS _ _ _) (by omega) (fun z => by omega), bd2_some, if_pos rfl, y_T_30]
    rw [← eM] at e3
    unfold Mo_testAll_r
    rw [l4, if_pos rfl, e3, bd1_some]
    obtain ⟨f, rfl⟩ : ∃ f', fu = f' + 1 := ⟨fu - 1, by omega⟩
    show Mo_testAll_s4 _ _ _ _ _ _ = _
    unfold Mo_testAll_s4
    rw [l4, if_pos rfl, Mo_passes_n (k := 9) (i := e') (S := S) (Tg _ _ _) y_T_s (by omega) (by omega) hb.1.2.2 hS.2.1 (TS _ _ _) (by omega) (fun z => by omega), bd2_some, if_pos rfl, y_T_30]
  · obtain ⟨n, hn, e1⟩ := (y_test hf hb.1.2.2 hS.2.2 g hS.1 hS.2.1 v wn hst yb h (by omega)).2.2 rfl 39 (by omega) (M 154 43) (M 154 44)
    rw [← eM] at e1
    obtain ⟨n, rfl⟩ : ∃ n', n = n' + 1 := ⟨n - 1, by omega⟩
    refine e1.trans ?_
    show Mo_testAll_s4 _ _ _ _ _ _ = _
    unfold Mo_testAll_s4
    rw [l4, if_pos rfl, Mo_passes_n (k := 9) (i := e') (S := S) (Tg _ _ _) y_T_s (by omega) (by omega) hb.1.2.2 hS.2.1 (TS _ _ _) (by omega) (fun z => by omega), bd2_some, if_pos rfl, y_T_30]
end

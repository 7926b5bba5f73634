/-! ===== pure: part 84: the class tests ===== -/
noncomputable def y_ind (p : Prop) : Int := @ite Int p (Classical.propDecidable p) 1 0
theorem y_ind_1 {p : Prop} (h : p) : y_ind p = 1 := by unfold y_ind; exact if_pos h
theorem y_ind_0 {p : Prop} (h : ¬ p) : y_ind p = 0 := by unfold y_ind; exact if_neg h
theorem y_ind_01 (p : Prop) : y_ind p = 0 ∨ y_ind p = 1 := by
  rcases Classical.em p with h | h
  · exact Or.inr (y_ind_1 h)
  · exact Or.inl (y_ind_0 h)
theorem y_ind_eq {p q : Prop} (h : p ↔ q) : y_ind p = y_ind q := by
  rcases Classical.em p with c | c
  · rw [y_ind_1 c, y_ind_1 (h.1 c)]
  · rw [y_ind_0 c, y_ind_0 (fun z => c (h.2 z))]
/-- years BEHIND, as the class has them -/
def y_bhv (lv : Int) (w K Q A F : Int → Int) (m ln set sort l : Int) : Int := max (y_val (1000000, 1000000) (y_bop (y_z w lv 0) K Q A ln sort l set) F (m - 1)).1 (y_bb sort l set)
def y_good (lv : Int) (w K Q A F : Int → Int) (m ln wh li per lim op set : Int) : Prop := ∀ k, 0 ≤ k → k < 24 → y_is wh li lim lv w op k → y_bhv lv w K Q A F m ln set (k / 8) (k % 8) ≤ per
/-- what the test may change: answers, the course -/
def y_oa (M N : zM) : Prop := ∀ x i, x ≠ 138 → x ≠ 139 → ¬ (x = 142 ∧ 10 ≤ i) → x ≠ 149 → N x i = M x i
theorem y_oa.refl (M : zM) : y_oa M M := fun _ _ _ _ _ _ => rfl
theorem y_oa.trans {M N T : zM} (h : y_oa M N) (h' : y_oa N T) : y_oa M T := fun x i a b c d => (h' x i a b c d).trans (h x i a b c d)
theorem y_oa.off {M N : zM} (h : y_oa M N) : y_off M N := fun a i c => h a i (fun e => c (by omega)) (fun e => c (by omega)) (fun e => c (by omega)) (fun e => c (by omega))
theorem y_tr.oa {L : zL} {M N : zM} {lv : Int} {w K Q A F : Int → Int} {m ln wh li per lim op : Int} (t : y_tr L M lv w K Q A F m ln wh li per lim op) (o : y_oa M N) : y_tr L N lv w K Q A F m ln wh li per lim op := by
  obtain ⟨t1, ⟨t2, t3, t4, t5⟩, t6, ⟨⟨w1, ⟨w2, w3, w4⟩, w5⟩, t8, t9, t10, t11⟩, t12, t13, t14⟩ := t
  refine ⟨⟨(o _ _ (by omega) (by omega) (by omega) (by omega)).trans t1.1, fun j j0 j1 => ?_⟩, ⟨t2.of fun x i c => o x i (by omega) (by omega) (by omega) (by omega), (o _ _ (by omega) (by omega) (by omega) (by omega)).trans t3, (o _ _ (by omega) (by omega) (by omega) (by omega)).trans t4, (o _ _ (by omega) (by omega) (by omega) (by omega)).trans t5⟩, (o _ _ (by omega) (by omega) (by omega) (by omega)).trans t6, ⟨⟨w1, ⟨(o _ _ (by omega) (by omega) (by omega) (by omega)).trans w2, (o _ _ (by omega) (by omega) (by omega) (by omega)).trans w3, (o _ _ (by omega) (by omega) (by omega) (by omega)).trans w4⟩, w5⟩, (o _ _ (by omega) (by omega) (by omega) (by omega)).trans t8, (o _ _ (by omega) (by omega) (by omega) (by omega)).trans t9, (o _ _ (by omega) (by omega) (by omega) (by omega)).trans t10, fun p p0 p1 => ?_⟩, t12, t13, ?_⟩
  · rw [o _ _ (by omega) (by omega) (by omega) (by omega), o _ _ (by omega) (by omega) (by omega) (by omega), o _ _ (by omega) (by omega) (by omega) (by omega), o _ _ (by omega) (by omega) (by omega) (by omega)]
    exact t1.2 j j0 j1
  · rw [o _ _ (by omega) (by omega) (by omega) (by omega), o _ _ (by omega) (by omega) (by omega) (by omega)]
    exact t11 p p0 p1
  · rw [o _ _ (by omega) (by omega) (by omega) (by omega)]
    exact t14.of (funext fun i => o _ _ (by omega) (by omega) (by omega) (by omega)) (funext fun i => o _ _ (by omega) (by omega) (by omega) (by omega))
section
variable {fu : Nat} {L : zL} {M : zM} {lv : Int} {w K Q A F : Int → Int} {m ln wh li per lim op : Int}
/-- what the lemmas of the test ask for -/
def y_te (lv : Int) (w K Q A F : Int → Int) (m ln : Int) : Prop := WV lv w ∧ (∀ l, 0 ≤ l → l < lv → w (2 + l) ≤ 0) ∧ (1 ≤ m ∧ m ≤ 31) ∧ (0 ≤ ln ∧ ln ≤ 99) ∧ ∀ k, 0 ≤ k → k < m → y_sk K Q A F lv k
theorem y_z_1 {w : Int → Int} {lv y : Int} : y_z w lv y 1 = lv := by unfold y_z; rw [if_neg (by decide), if_pos rfl]
theorem Rk_yB (hf : 400 ≤ fu) (hL : Lay L) (hP : Ptr M) (te : y_te lv w K Q A F m ln) (t : y_tr L M lv w K Q A F m ln wh li per lim op) {sort l set : Int} (hl : 0 ≤ l ∧ l < lv) :
    ∃ M', Rk_yearsBehind fu L M 133 143 sort l set = some (M', y_bhv lv w K Q A F m ln set sort l) ∧ y_oa M M' := by
  obtain ⟨v, hb, hm, hln, sk⟩ := te
  obtain ⟨M', a1, a2⟩ := Rk_yearsBehind_ok (fu := fu) (set := set) (sort := sort) hf hL hP t.2.1.1 (y_z_v (y := 0) v hb (by omega)) (by omega) t.1 hm hln sk hl
  exact ⟨M', a1, fun x i c1 c2 _ _ => a2 x i c1 c2⟩
theorem Tr_behindOf_ok (hf : 400 ≤ fu) (hL : Lay L) (hP : Ptr M) (te : y_te lv w K Q A F m ln) (t : y_tr L M lv w K Q A F m ln wh li per lim op) {sort l set : Int} (hl : 0 ≤ l ∧ l < lv) :
    ∃ M', Tr_behindOf fu L M 142 sort l set = some (M', y_bhv lv w K Q A F m ln set sort l) ∧ y_oa M M' := by
  have l42 : L 142 = (9, 0) := hL 142 (by decide)
  have l33 : L 133 = (6, 0) := hL 133 (by decide)
  have p0 : M 142 0 = 133 := hP (142, 0, 133) (by decide +kernel)
  have p1 : M 142 1 = 143 := hP (142, 1, 143) (by decide +kernel)
  obtain ⟨M', a1, a2⟩ := Rk_yB (fu := fu) (set := set) (sort := sort) hf hL hP te t hl
  refine ⟨M', ?_, a2⟩
  unfold Tr_behindOf
  rw [l42, if_pos rfl, p0, l33, if_pos rfl, p1, a1, bd2_some]
theorem Tr_soonestOf_ok (hf : 400 ≤ fu) (hL : Lay L) (hP : Ptr M) (te : y_te lv w K Q A F m ln) (t : y_tr L M lv w K Q A F m ln wh li per lim op) {sort l : Int} (hl : 0 ≤ l ∧ l < lv) :
    ∃ M', Tr_soonestOf fu L M 142 sort l = some (M', max (y_val 0 (y_sop (y_z w lv 0) K Q A ln sort l) F (m - 1)) (y_sb sort)) ∧ y_oa M M' := by
  have l42 : L 142 = (9, 0) := hL 142 (by decide)
  have l33 : L 133 = (6, 0) := hL 133 (by decide)
  have p0 : M 142 0 = 133 := hP (142, 0, 133) (by decide +kernel)
  have p1 : M 142 1 = 143 := hP (142, 1, 143) (by decide +kernel)
  obtain ⟨v, hb, hm, hln, sk⟩ := te
  obtain ⟨M', a1, a2⟩ := Rk_soonestYear_ok (fu := fu) (sort := sort) hf hL hP t.2.1.1 (y_z_v (y := 0) v hb (by omega)) (by omega) t.1 hm hln sk hl
  refine ⟨M', ?_, fun x i c1 _ _ _ => a2 x i c1⟩
  unfold Tr_soonestOf
  rw [l42, if_pos rfl, p0, l33, if_pos rfl, p1, a1, bd2_some]
theorem y_mb.ent {P : Int → Prop} {n b : Int} (h : y_mb M P n b) {i : Int} (i0 : 0 ≤ i) (i1 : i < n) : (8 * M 151 i + M 152 i) / 8 = M 151 i ∧ (8 * M 151 i + M 152 i) % 8 = M 152 i := by
  have := (h.1 i i0 i1).1
  omega
theorem Tr_passes_ok (hf : 400 ≤ fu) (hL : Lay L) (hP : Ptr M) (te : y_te lv w K Q A F m ln) (t : y_tr L M lv w K Q A F m ln wh li per lim op) (set : Int) :
    ∃ M', Tr_passes fu L M 142 set = some (M', y_ind (y_good lv w K Q A F m ln wh li per lim op set)) ∧ y_oa M M' := by
  have l42 : L 142 = (9, 0) := hL 142 (by decide)
  have l33 : L 133 = (6, 0) := hL 133 (by decide)
  have l51 : L 151 = (101, 24) := hL 151 (by decide)
  have l52 : L 152 = (101, 24) := hL 152 (by decide)
  obtain ⟨n, hn⟩ : ∃ n, n = M 142 5 := ⟨_, rfl⟩
  have mb := t.2.2.2.2.2.2
  rw [← hn] at mb
  have hn24 := mb.2.2.2
  have go : ∀ (k c : Nat) (T : zM) (i : Int), 0 ≤ i → i + k = n → k < c → y_oa M T → (∀ j, 0 ≤ j → j < i → y_bhv lv w K Q A F m ln set (M 151 j) (M 152 j) ≤ per) →
      ∃ M', Tr_passes_l2 fu L c T 142 set i = some (M', y_ind (y_good lv w K Q A F m ln wh li per lim op set)) ∧ y_oa M M' := by
    intro k
    induction k with
    | zero =>
      intro c T i i0 iN hc o hall
      obtain ⟨c, rfl⟩ : ∃ c', c = c' + 1 := ⟨c - 1, by omega⟩
      have hg : y_good lv w K Q A F m ln wh li per lim op set := fun k k0 k1 hk => by
        obtain ⟨j, j0, j1, j2⟩ := mb.2.2.1 k k0 k1 hk
        have e := mb.ent j0 j1
        rw [j2] at e
        rw [e.1, e.2]
        exact hall j j0 (by omega)
      refine ⟨T, ?_, o⟩
      show Tr_passes_s2 _ _ _ _ _ _ _ = _
      unfold Tr_passes_s2
      rw [l42, if_pos rfl, o 142 5 (by omega) (by omega) (by omega) (by omega), ← hn, if_neg (by omega), y_ind_1 hg]
    | succ k ih =>
      intro c T i i0 iN hc o hall
      obtain ⟨c, rfl⟩ : ∃ c', c = c' + 1 := ⟨c - 1, by omega⟩
      have i24 : i < 24 := by omega
      have iN' : i < n := by omega
      have hbi := mb.1 i i0 iN'
      have ee := mb.ent i0 iN'
      have hlt : M 152 i < lv := by have := hbi.2.1.1; rw [ee.2] at this; exact this
      have PT : Ptr T := o.off.ptr hP
      have tT := t.oa o
      obtain ⟨T', t1, t2⟩ := Rk_yB (fu := fu) (set := set) (sort := M 151 i) (l := M 152 i) hf hL PT te tT ⟨by omega, hlt⟩
      have q0 : T 142 0 = 133 := PT (142, 0, 133) (by decide +kernel)
      have q1 : T 142 1 = 143 := PT (142, 1, 143) (by decide +kernel)
      have q3 : T 142 3 = 151 := PT (142, 3, 151) (by decide +kernel)
      have q4 : T 142 4 = 152 := PT (142, 4, 152) (by decide +kernel)
      have q5 : T 142 5 = n := (o _ _ (by omega) (by omega) (by omega) (by omega)).trans hn.symm
      have q51 : T 151 i = M 151 i := o _ _ (by omega) (by omega) (by omega) (by omega)
      have q52 : T 152 i = M 152 i := o _ _ (by omega) (by omega) (by omega) (by omega)
      have q8 : T' 142 8 = per := (t2 _ _ (by omega) (by omega) (by omega) (by omega)).trans tT.2.2.1
      have ew : w32 (i + 1) = i + 1 := w32_id (by omega)
      have e0 : Tr_passes_l2 fu L (c + 1) T 142 set i = if per < y_bhv lv w K Q A F m ln set (M 151 i) (M 152 i) then some (T', 0) else Tr_passes_l2 fu L c T' 142 set (i + 1) := by
        show Tr_passes_s2 _ _ _ _ _ _ _ = _
        unfold Tr_passes_s2
        simp only [l42, q5, iN', i24, q3, l51, i0, and_self, q4, l52, q0, l33, q1, ↓reduceIte, q51, q52, ↓bd2_eq t1, q8, ↓lt1_def, ew]
      rw [e0]
      by_cases cc : per < y_bhv lv w K Q A F m ln set (M 151 i) (M 152 i)
      · rw [if_pos cc]
        refine ⟨T', ?_, o.trans t2⟩
        rw [y_ind_0]
        intro hg
        have := hg (8 * M 151 i + M 152 i) (by omega) hbi.2.2.2 hbi.2.1
        rw [ee.1, ee.2] at this
        omega
      · rw [if_neg cc]
        refine ih c T' (i + 1) (by omega) (by omega) (by omega) (o.trans t2) fun j j0 j1 => ?_
        by_cases cj : j = i
        · subst cj; omega
        · exact hall j j0 (by omega)
  exact go n.toNat fu M 0 (by omega) (by omega) (by omega) (y_oa.refl M) (fun j j0 j1 => absurd j1 (by omega))
theorem Tr_allLives_ok (hL : Lay L) (hP : Ptr M) (hlv : lv ≤ 8) (t : y_tr L M lv w K Q A F m ln wh li per lim op) : Tr_allLives fu L M 142 = some (w32 (ishl 1 lv - 1)) := by
  have l42 : L 142 = (9, 0) := hL 142 (by decide)
  have l43 : L 143 = (11, 0) := hL 143 (by decide)
  have p1 : M 142 1 = 143 := hP (142, 1, 143) (by decide +kernel)
  unfold Tr_allLives
  rw [l42, if_pos rfl, p1, l43, if_pos rfl, t.2.1.1.2.1.1, show min lv 8 = lv by omega]
def y_all (lv : Int) : Int := w32 (ishl 1 lv - 1)
theorem y_all_b : ∀ lv : Nat, lv ≤ 8 → y_all lv = 2 ^ lv - 1 := by
  have h : ∀ lv : Nat, lv < 9 → y_all lv = 2 ^ lv - 1 := by decide +kernel
  exact fun lv hh => h lv (by omega)
theorem y_all_r {lv : Int} (h : 0 ≤ lv ∧ lv ≤ 8) : 0 ≤ y_all lv ∧ y_all lv ≤ 255 := by
  have h9 : ∀ lv : Nat, lv < 9 → 0 ≤ y_all lv ∧ y_all lv ≤ 255 := by decide +kernel
  have := h9 lv.toNat (by omega)
  rw [show ((lv.toNat : Nat) : Int) = lv by omega] at this
  exact this
end

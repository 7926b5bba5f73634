/-! ===== pure: part 86: courses, the class ===== -/
def y_dl (c l : Int) : Int := if y_has c l = 1 then 1 else 60
def y_ld (lv c : Int) : Int := y_fo (fun l s => max s (y_dl c l)) lv.toNat 0 0
/-- the row of the lives as a course has them die -/
def y_pw (w : Int → Int) (lv c : Int) (i : Int) : Int := if i = 0 then 400 else if i = 1 then lv else if 26 ≤ i ∧ i < 50 then y_dl c (i - 26) else w i
def y_yf (lv : Int) (w K Q A F : Int → Int) (m ln sort l c : Int) : Int := if sort = 0 then y_vy (y_pw w lv c) K Q A F ln (w (2 + l)) (y_dl c l) m else y_vy (y_pw w lv c) K Q A F ln ((if iand c 256 = 0 then y_dl c l else 1) + (if sort = 2 then 30 else 0)) 16777216 m
def y_isc (lv c : Int) : Prop := 0 ≤ c ∧ c < 512 ∧ iand c 255 ≤ y_all lv
def y_late (lv : Int) (w K Q A F : Int → Int) (m ln wh li per lim op c : Int) : Prop := ∃ k, 0 ≤ k ∧ k < 24 ∧ y_is wh li lim lv w op k ∧ y_ld lv c + per < y_yf lv w K Q A F m ln (k / 8) (k % 8) c
theorem y_dl_b (c l : Int) : y_dl c l = 1 ∨ y_dl c l = 60 := by
  unfold y_dl
  split
  · exact Or.inl rfl
  · exact Or.inr rfl
theorem y_pw_b {w : Int → Int} {lv c p : Int} (h : 0 ≤ p ∧ p < 24) : y_pw w lv c (2 + p) = w (2 + p) := by
  unfold y_pw
  rw [if_neg (by omega), if_neg (by omega), if_neg (by omega)]
theorem y_pw_d {w : Int → Int} {lv c p : Int} (h : 0 ≤ p ∧ p < 24) : y_pw w lv c (26 + p) = y_dl c p := by
  unfold y_pw
  rw [if_neg (by omega), if_neg (by omega), if_pos (by omega)]
  congr 1; omega
theorem y_pw_p {w : Int → Int} {lv c p : Int} (h : 0 ≤ p ∧ p < 24) : y_pw w lv c (50 + p) = w (50 + p) := by
  unfold y_pw
  rw [if_neg (by omega), if_neg (by omega), if_neg (by omega)]
theorem y_pw_0 {w : Int → Int} {lv c : Int} : y_pw w lv c 0 = 400 := if_pos rfl
theorem y_pw_1 {w : Int → Int} {lv c : Int} : y_pw w lv c 1 = lv := by unfold y_pw; rw [if_neg (by decide), if_pos rfl]
theorem y_pw_v {w : Int → Int} {lv c : Int} (v : WV lv w) (hb : ∀ l, 0 ≤ l → l < lv → w (2 + l) ≤ 0) : WV lv (y_pw w lv c) := by
  have hw := v.1
  refine ⟨by rw [y_pw_1]; omega, by rw [y_pw_0]; omega, fun p p0 p1 => ?_⟩
  rw [y_pw_1] at p1
  have hv := v.2.2 p p0 (by omega)
  have := hb p p0 p1
  have hd := y_dl_b c p
  rw [y_pw_b (by omega), y_pw_d (by omega), y_pw_p (by omega), y_pw_0]
  omega
theorem y_ld_b (lv c : Int) : 0 ≤ y_ld lv c ∧ y_ld lv c ≤ 60 := by
  have g : ∀ (k : Nat) (i s : Int), 0 ≤ s → s ≤ 60 → 0 ≤ y_fo (fun l s => max s (y_dl c l)) k i s ∧ y_fo (fun l s => max s (y_dl c l)) k i s ≤ 60 := by
    intro k
    induction k with
    | zero => intro i s h0 h1; exact ⟨h0, h1⟩
    | succ k ih =>
      intro i s h0 h1
      unfold y_fo
      have := y_dl_b c i
      exact ih (i + 1) _ (by omega) (by omega)
  exact g lv.toNat 0 0 (by omega) (by omega)
section
variable {fu : Nat} {L : zL} {M : zM} {lv : Int} {w K Q A F : Int → Int} {m ln wh li per lim op : Int}
theorem Tr_isCourse_ok (hL : Lay L) (hP : Ptr M) (hlv : 0 ≤ lv ∧ lv ≤ 8) (t : y_tr L M lv w K Q A F m ln wh li per lim op) (c : Int) : Tr_isCourse fu L M 142 c = some (y_ind (y_isc lv c)) := by
  have l42 : L 142 = (9, 0) := hL 142 (by decide)
  have eal := Tr_allLives_ok (fu := fu) hL hP hlv.2 t
  rw [show w32 (ishl 1 lv - 1) = y_all lv from rfl] at eal
  unfold Tr_isCourse Tr_isSet
  by_cases c0 : c < 0
  · rw [if_pos c0, y_ind_0 (fun z => by have := z.1; omega)]
  · rw [if_neg c0]
    by_cases c1 : c < 512
    · have h9 : ∀ c : Nat, c < 512 → ¬ iand c 255 < 0 := by decide +kernel
      have h := h9 c.toNat (by omega)
      rw [show ((c.toNat : Nat) : Int) = c by omega] at h
      rw [if_pos c1, l42, if_pos rfl, if_neg h, if_pos rfl, eal, bd1_some]
      by_cases c2 : y_all lv < iand c 255
      · rw [if_pos c2, bd1_some, if_pos rfl, y_ind_0 (fun z => by have := z.2.2; omega)]
      · rw [if_neg c2, bd1_some, if_neg (by decide), y_ind_1 ⟨by omega, c1, by omega⟩]
    · rw [if_neg c1, y_ind_0 (fun z => by have := z.2.1; omega)]
theorem Tr_follow_ok (hf : 400 ≤ fu) (hL : Lay L) (hP : Ptr M) (te : y_te lv w K Q A F m ln) (t : y_tr L M lv w K Q A F m ln wh li per lim op) (c : Int) :
    ∃ M', Tr_follow fu L M 142 c = some M' ∧ y_oa M M' ∧ M' 142 10 = y_ld lv c ∧ M' 142 11 = (if iand c 256 = 0 then 0 else 1) ∧ WR L M' 147 148 149 150 lv (y_pw w lv c) ∧ y_tr L M' lv w K Q A F m ln wh li per lim op := by
  have l42 : L 142 = (9, 0) := hL 142 (by decide)
  have l47 : L 147 = (11, 0) := hL 147 (by decide)
  have l49 : L 149 = (101, 24) := hL 149 (by decide)
  have hw := te.1.1
  obtain ⟨D, hD⟩ : ∃ D, D = mu (mu M 142 11 (if iand c 256 = 0 then 0 else 1)) 142 10 0 := ⟨_, rfl⟩
  have fD : ∀ x i, ¬ (x = 142 ∧ 10 ≤ i ∧ i ≤ 11) → D x i = M x i := fun x i q => by rw [hD, mx_ne (by omega), mx_ne (by omega)]
  have d10 : D 142 10 = 0 ∧ D 142 11 = (if iand c 256 = 0 then 0 else 1) := by
    rw [hD]; simp (disch := omega) only [mx_ne, mx_same, and_self]
  have e1 : Tr_follow fu L M 142 c = Tr_follow_l24 fu L fu D 142 c 0 := by
    unfold Tr_follow
    rw [l42, if_pos rfl, if_pos rfl, hD]
    by_cases c0 : iand c 256 = 0
    · rw [if_pos c0, if_pos c0]; rfl
    · rw [if_neg c0, if_neg c0]; rfl
  rw [e1]
  obtain ⟨t1, t2, t3, ⟨t4, t5, t6, t7, t8⟩, t9⟩ := id t
  obtain ⟨⟨T, la⟩, k, e, ⟨o, j1, j2, j3⟩⟩ := y_lpx (F := fun k (s : zM × Int) i => Tr_follow_l24 fu L k s.1 142 c i) (N := lv)
    (fun i s => (∀ x j, ¬ (x = 142 ∧ j = 10) → x ≠ 149 → s.1 x j = D x j) ∧ s.1 142 10 = s.2 ∧ (∀ p, 0 ≤ p → p < i → s.1 149 p = y_dl c p) ∧ y_fo (fun l s => max s (y_dl c l)) (lv - i).toNat i s.2 = y_ld lv c)
    (fun k s i h0 hN hJ => by
      obtain ⟨T, la⟩ := s
      obtain ⟨o, j1, j2, j3⟩ := hJ
      dsimp only at o j1 j2 j3
      have ew : w32 (i + 1) = i + 1 := w32_id (by omega)
      have p2 : M 142 2 = 147 := hP (142, 2, 147) (by decide +kernel)
      have q2 : T 142 2 = 147 := (o _ _ (by omega) (by omega)).trans ((fD _ _ (by omega)).trans p2)
      have q3 : T 147 3 = lv := (o _ _ (by omega) (by omega)).trans ((fD _ _ (by omega)).trans t5)
      have q4 : T 147 4 = lv := (o _ _ (by omega) (by omega)).trans ((fD _ _ (by omega)).trans t6)
      have q1 : T 147 1 = 149 := (o _ _ (by omega) (by omega)).trans ((fD _ _ (by omega)).trans t4.2.1.2.1)
      have i24 : i < 24 := by omega
      have c0 : ¬ i < 0 := by omega
      have es : Wd_setDeath fu L T 147 i (y_dl c i) = some (mu T 149 i (y_dl c i)) := by
        unfold Wd_setDeath Wd_has
        simp only [l47, c0, q4, hN, i24, ↓reduceIte, bd1_some, Int.reduceEq, q1, l49, h0, and_self, ↓lt1_def]
      have e50 : ∀ y, y = y_dl c i → Tr_follow_b50 fu (Tr_follow_l24 fu L k) L T 142 c i y = Tr_follow_l24 fu L k (mu (mu T 149 i (y_dl c i)) 142 10 (max la (y_dl c i))) 142 c (i + 1) := fun y hy => by
        have a10 : mu T 149 i (y_dl c i) 142 10 = la := (mx_ne (by omega)).trans j1
        unfold Tr_follow_b50
        rw [hy]
        simp only [l42, q2, l47, ↓reduceIte, ↓bd1_eq es, ↓lt1_def, a10, ew]
      refine ⟨(mu (mu T 149 i (y_dl c i)) 142 10 (max la (y_dl c i)), max la (y_dl c i)), ?_, ?_, (show mu (mu T 149 i (y_dl c i)) 142 10 (max la (y_dl c i)) 142 10 = max la (y_dl c i) from mx_same _ _ _ _), ?_, ?_⟩
      · show Tr_follow_s24 _ _ _ _ _ _ _ = _
        unfold Tr_follow_s24
        simp only [l42, q2, l47, q3, hN, ↓reduceIte]
        by_cases ch : iand (ishr c i) 1 = 1
        · rw [if_pos ch]; exact e50 1 (by unfold y_dl y_has; rw [if_pos ch, if_pos rfl])
        · rw [if_neg ch]; exact e50 60 (by unfold y_dl y_has; rw [if_neg ch, if_neg (by decide)])
      · intro x j z1 z2
        exact (mx_ne (by omega)).trans ((mx_ne (by omega)).trans (o x j z1 z2))
      · intro p p0 p1
        show mu (mu T 149 i (y_dl c i)) 142 10 (max la (y_dl c i)) 149 p = _
        rw [mx_ne (by omega)]
        by_cases cp : p = i
        · rw [cp, mx_same]
        · rw [mx_ne (by omega)]
          exact j2 p p0 (by omega)
      · rw [show (lv - i).toNat = (lv - (i + 1)).toNat + 1 by omega] at j3
        exact j3) lv.toNat fu (D, 0) 0 (by omega) (by omega) (by omega) ⟨fun _ _ _ _ => rfl, d10.1, fun p p0 p1 => absurd p1 (by omega), by unfold y_ld; rw [show lv - 0 = lv by omega]⟩
  dsimp only at e o j1 j2 j3
  rw [show (lv - lv).toNat = 0 by omega] at j3
  have p2 : M 142 2 = 147 := hP (142, 2, 147) (by decide +kernel)
  have q2 : T 142 2 = 147 := (o _ _ (by omega) (by omega)).trans ((fD _ _ (by omega)).trans p2)
  have q3 : T 147 3 = lv := (o _ _ (by omega) (by omega)).trans ((fD _ _ (by omega)).trans t5)
  have oa : y_oa M T := fun x i z1 z2 z3 z4 => (o x i (by omega) z4).trans (fD x i (by omega))
  refine ⟨T, e.trans ?_, oa, j1.trans j3, (o _ _ (by omega) (by omega)).trans d10.2, ?_, t.oa oa⟩
  · show Tr_follow_s24 _ _ _ _ _ _ _ = _
    unfold Tr_follow_s24
    rw [l42, if_pos rfl, q2, l47, if_pos rfl, q3, if_neg (by omega)]
  · obtain ⟨w1, ⟨w2, w3, w4⟩, w5⟩ := t4
    refine ⟨⟨w1, ⟨(oa _ _ (by omega) (by omega) (by omega) (by omega)).trans w2, (oa _ _ (by omega) (by omega) (by omega) (by omega)).trans w3, (oa _ _ (by omega) (by omega) (by omega) (by omega)).trans w4⟩, w5⟩, ⟨q3, ?_, ?_⟩, fun p p0 p1 => ?_⟩
    · rw [y_pw_1]; exact (oa _ _ (by omega) (by omega) (by omega) (by omega)).trans t6
    · rw [y_pw_0]; exact (oa _ _ (by omega) (by omega) (by omega) (by omega)).trans t7
    · rw [y_pw_1] at p1
      have h8 := t8 p p0 p1
      have hd := y_dl_b c p
      rw [y_pw_b (by omega), y_pw_d (by omega), y_pw_p (by omega), oa 148 p (by omega) (by omega) (by omega) (by omega), oa 150 p (by omega) (by omega) (by omega) (by omega), j2 p p0 p1, y_cD_d (by omega)]
      exact ⟨h8.1, rfl, h8.2⟩
theorem Tr_yearFollowed_ok (hf : 400 ≤ fu) (hL : Lay L) (hP : Ptr M) (te : y_te lv w K Q A F m ln) (t : y_tr L M lv w K Q A F m ln wh li per lim op) {c : Int} (h11 : M 142 11 = (if iand c 256 = 0 then 0 else 1)) (wr : WR L M 147 148 149 150 lv (y_pw w lv c)) {sort l : Int} (hs : 0 ≤ sort ∧ sort ≤ 2) (hl : 0 ≤ l ∧ l < lv) :
    ∃ M', Tr_yearFollowed fu L M 142 sort l = some (M', y_yf lv w K Q A F m ln sort l c) ∧ ∀ x i, x ≠ 138 → M' x i = M x i := by
  have l42 : L 142 = (9, 0) := hL 142 (by decide)
  have l47 : L 147 = (11, 0) := hL 147 (by decide)
  have l33 : L 133 = (6, 0) := hL 133 (by decide)
  have p0 : M 142 0 = 133 := hP (142, 0, 133) (by decide +kernel)
  have p2 : M 142 2 = 147 := hP (142, 2, 147) (by decide +kernel)
  obtain ⟨v, hb, hm, hln, sk⟩ := te
  have hw := v.1
  have vp := y_pw_v (c := c) v hb
  have hd := y_dl_b c l
  have hv := v.2.2 l hl.1 (by omega)
  have hbl := hb l hl.1 hl.2
  have VY : ∀ b d, -99 ≤ b ∧ b ≤ 400 → (d = 16777216 ∨ 0 ≤ d ∧ d ≤ 400) → ∃ M', Rk_vestingYear fu L M 133 147 b (y_cD d) = some (M', y_vy (y_pw w lv c) K Q A F ln b d m) ∧ ∀ x i, x ≠ 138 → M' x i = M x i := fun b d hb' hd' => by
    obtain ⟨M', a1, a2, _⟩ := Rk_vestingYear_ok (fu := fu) hf hL hP wr vp (by omega) t.1 hm hln sk hb' hd'
    exact ⟨M', a1, a2⟩
  have b60 : ∀ b, -99 ≤ b ∧ b ≤ 400 → ∃ M', Tr_yearFollowed_b60 fu L M 142 b = some (M', y_vy (y_pw w lv c) K Q A F ln b 16777216 m) ∧ ∀ x i, x ≠ 138 → M' x i = M x i := fun b hb' => by
    obtain ⟨M', a1, a2⟩ := VY b 16777216 hb' (Or.inl rfl)
    rw [show y_cD 16777216 = -1000000 from rfl] at a1
    refine ⟨M', ?_, a2⟩
    unfold Tr_yearFollowed_b60
    rw [l42, if_pos rfl, p0, l33, if_pos rfl, p2, a1, bd2_some]
  unfold Tr_yearFollowed y_yf
  by_cases s0 : sort = 0
  · rw [if_pos s0, if_pos s0]
    obtain ⟨M', a1, a2⟩ := VY (w (2 + l)) (y_dl c l) (by omega) (by omega)
    refine ⟨M', ?_, a2⟩
    simp only [l42, p2, l47, ↓reduceIte, Wr_bornIn wr vp, Wr_diedIn wr vp, y_pw_1, hl.1, hl.2, and_self, bd1_some, y_pw_b (show 0 ≤ l ∧ l < 24 by omega), y_pw_d (show 0 ≤ l ∧ l < 24 by omega), p0, l33, ↓bd2_eq a1]
  · rw [if_neg s0, if_neg s0]
    have ew30 : w32 (y_dl c l + 30) = y_dl c l + 30 := w32_id (by omega)
    have ew31 : w32 (1 + 30) = 1 + 30 := w32_id (by omega)
    have ecd : y_cD (y_dl c l) = y_dl c l := y_cD_d (by omega)
    have hd2 : Wd_diedIn fu L M 147 l = some (y_dl c l) := by
      rw [Wr_diedIn wr vp, y_pw_1, if_pos hl, y_pw_d (by omega), ecd]
    rw [l42, if_pos rfl, h11, p2, l47, if_pos rfl, hd2, bd1_some, lt1_def, lt1_def, ew30, ew31]
    by_cases ce : iand c 256 = 0
    · rw [if_pos ce, if_pos rfl, if_pos ce]
      by_cases s2 : sort = 2
      · rw [if_pos s2, if_pos s2]; exact b60 _ (by omega)
      · rw [if_neg s2, if_neg s2, show y_dl c l + 0 = y_dl c l by omega]; exact b60 _ (by omega)
    · rw [if_neg ce, if_neg (by decide), if_neg ce]
      by_cases s2 : sort = 2
      · rw [if_pos s2, if_pos s2]; exact b60 _ (by omega)
      · rw [if_neg s2, if_neg s2, show (1 : Int) + 0 = 1 by omega]; exact b60 _ (by omega)
theorem Tr_yearByCourse_ok (hf : 400 ≤ fu) (hL : Lay L) (hP : Ptr M) (te : y_te lv w K Q A F m ln) (t : y_tr L M lv w K Q A F m ln wh li per lim op) {sort l c : Int} (hs : 0 ≤ sort ∧ sort ≤ 2) (hl : 0 ≤ l ∧ l < lv) :
    ∃ M', Tr_yearByCourse fu L M 142 sort l c = some (M', y_yf lv w K Q A F m ln sort l c) ∧ y_oa M M' := by
  have l42 : L 142 = (9, 0) := hL 142 (by decide)
  obtain ⟨T, a1, a2, a3, a4, a5, a6⟩ := Tr_follow_ok (fu := fu) hf hL hP te t c
  obtain ⟨U, b1, b2⟩ := Tr_yearFollowed_ok (fu := fu) hf hL (a2.off.ptr hP) te a6 a4 a5 hs hl
  refine ⟨U, ?_, a2.trans fun x i z _ _ _ => b2 x i z⟩
  unfold Tr_yearByCourse
  rw [l42, if_pos rfl, a1, bd1_some, b1, bd2_some]
theorem Tr_isLateBy_ok (hf : 400 ≤ fu) (hL : Lay L) (hP : Ptr M) (te : y_te lv w K Q A F m ln) (hper : 0 ≤ per ∧ per ≤ 99) (t : y_tr L M lv w K Q A F m ln wh li per lim op) (c : Int) :
    ∃ M', Tr_isLateBy fu L M 142 c = some (M', y_ind (y_late lv w K Q A F m ln wh li per lim op c)) ∧ y_oa M M' := by
  have l42 : L 142 = (9, 0) := hL 142 (by decide)
  have l51 : L 151 = (101, 24) := hL 151 (by decide)
  have l52 : L 152 = (101, 24) := hL 152 (by decide)
  obtain ⟨T0, a1, a2, a3, a4, a5, a6⟩ := Tr_follow_ok (fu := fu) hf hL hP te t c
  obtain ⟨n, hn⟩ : ∃ n, n = T0 142 5 := ⟨_, rfl⟩
  have mb := a6.2.2.2.2.2.2
  rw [← hn] at mb
  have hn24 := mb.2.2.2
  have hld := y_ld_b lv c
  have go : ∀ (k c' : Nat) (T : zM) (i : Int), 0 ≤ i → i + k = n → k < c' → (∀ x j, x ≠ 138 → T x j = T0 x j) → (∀ j, 0 ≤ j → j < i → ¬ y_ld lv c + per < y_yf lv w K Q A F m ln (T0 151 j) (T0 152 j) c) →
      ∃ M', Tr_isLateBy_l7 fu L c' T 142 i = some (M', y_ind (y_late lv w K Q A F m ln wh li per lim op c)) ∧ ∀ x j, x ≠ 138 → M' x j = T0 x j := by
    intro k
    induction k with
    | zero =>
      intro c' T i i0 iN hc o hall
      obtain ⟨c', rfl⟩ : ∃ c'', c' = c'' + 1 := ⟨c' - 1, by omega⟩
      refine ⟨T, ?_, o⟩
      show Tr_isLateBy_s7 _ _ _ _ _ _ = _
      unfold Tr_isLateBy_s7
      rw [l42, if_pos rfl, o 142 5 (by omega), ← hn, if_neg (by omega), y_ind_0]
      intro ⟨k, k0, k1, hk, hlt⟩
      obtain ⟨j, j0, j1, j2⟩ := mb.2.2.1 k k0 k1 hk
      have e := mb.ent j0 j1
      rw [j2] at e
      rw [e.1, e.2] at hlt
      exact hall j j0 (by omega) hlt
    | succ k ih =>
      intro c' T i i0 iN hc o hall
      obtain ⟨c', rfl⟩ : ∃ c'', c' = c'' + 1 := ⟨c' - 1, by omega⟩
      have i24 : i < 24 := by omega
      have iN' : i < n := by omega
      have hbi := mb.1 i i0 iN'
      have ee := mb.ent i0 iN'
      have hlt : T0 152 i < lv := by have := hbi.2.1.1; rw [ee.2] at this; exact this
      have oT : y_oa T0 T := fun x j z _ _ _ => o x j z
      have PT : Ptr T := (a2.trans oT).off.ptr hP
      have tT := a6.oa oT
      have wT : WR L T 147 148 149 150 lv (y_pw w lv c) := a5.of fun x j z => o x j (by omega)
      obtain ⟨T', t1, t2⟩ := Tr_yearFollowed_ok (fu := fu) (c := c) (sort := T0 151 i) (l := T0 152 i) hf hL PT te tT ((o _ _ (by omega)).trans a4) wT (by omega) ⟨by omega, hlt⟩
      have q3 : T 142 3 = 151 := PT (142, 3, 151) (by decide +kernel)
      have q4 : T 142 4 = 152 := PT (142, 4, 152) (by decide +kernel)
      have q5 : T 142 5 = n := (o _ _ (by omega)).trans hn.symm
      have q51 : T 151 i = T0 151 i := o _ _ (by omega)
      have q52 : T 152 i = T0 152 i := o _ _ (by omega)
      have q8 : T' 142 8 = per := (t2 _ _ (by omega)).trans tT.2.2.1
      have q10 : T' 142 10 = y_ld lv c := (t2 _ _ (by omega)).trans ((o _ _ (by omega)).trans a3)
      have ew : w32 (i + 1) = i + 1 := w32_id (by omega)
      have es : w32 (y_ld lv c + per) = y_ld lv c + per := w32_id (by omega)
      have e0 : Tr_isLateBy_l7 fu L (c' + 1) T 142 i = if y_ld lv c + per < y_yf lv w K Q A F m ln (T0 151 i) (T0 152 i) c then some (T', 1) else Tr_isLateBy_l7 fu L c' T' 142 (i + 1) := by
        show Tr_isLateBy_s7 _ _ _ _ _ _ = _
        unfold Tr_isLateBy_s7
        simp only [l42, q5, iN', i24, q3, l51, i0, and_self, q4, l52, ↓reduceIte, q51, q52, ↓bd2_eq t1, q8, q10, es, ↓lt1_def, ew]
      rw [e0]
      have o' : ∀ x j, x ≠ 138 → T' x j = T0 x j := fun x j z => (t2 x j z).trans (o x j z)
      by_cases cc : y_ld lv c + per < y_yf lv w K Q A F m ln (T0 151 i) (T0 152 i) c
      · rw [if_pos cc]
        refine ⟨T', ?_, o'⟩
        rw [y_ind_1]
        refine ⟨8 * T0 151 i + T0 152 i, by omega, hbi.2.2.2, hbi.2.1, ?_⟩
        rw [ee.1, ee.2]; exact cc
      · rw [if_neg cc]
        refine ih c' T' (i + 1) (by omega) (by omega) (by omega) o' fun j j0 j1 => ?_
        by_cases cj : j = i
        · subst cj; exact cc
        · exact hall j j0 (by omega)
  obtain ⟨U, u1, u2⟩ := go n.toNat fu T0 0 (by omega) (by omega) (by omega) (fun _ _ _ => rfl) (fun j j0 j1 => absurd j1 (by omega))
  refine ⟨U, ?_, a2.trans fun x i z _ _ _ => u2 x i z⟩
  unfold Tr_isLateBy
  rw [l42, if_pos rfl, a1, bd1_some, u1]
end

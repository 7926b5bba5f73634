/-! ===== pure: part 9i: rows alike; affairs copied ===== -/
theorem y_seg.congr {S S' K N A F : Int → Int} {lv e st : Int} (hS : ∀ i, 0 ≤ i → i < e → S' i = S i) {md d : Nat} {i j p q : Int} (h : y_seg S K N A F lv e st md d i j p q) : y_seg S' K N A F lv e st md d i j p q := by
  have c := y_seg_cl (S := S') (K := K) (N := N) (A := A) (F := F) (lv := lv) (e := e) (st := st)
  refine y_seg_ind (fun md d i j p q => y_seg S' K N A F lv e st md d i j p q) ?_ ?_ ?_ ?_ ?_ ?_ ?_ h
  · intro d i p k n l h1 h2 h3 h4 h5 h6 h7 h8 h9 h10 h11 h12 h13 h14
    exact c.1 d i p k n l h1 h2 h3 h4 h5 h6 h7 h8 h9 h10 h11 ((hS i h8 h9).trans h12) h13 h14
  · intro d i j p q n hs ih h1 h2 h3 h4 h5 h6 h7
    have b := (y_seg_b hs).1
    exact c.2.1 d i j p q n ih h1 h2 h3 h4 ((hS i h3 (by omega)).trans h5) h6 h7
  · intro d i j p q hs ih h1 h2 h3 h4
    have b := (y_seg_b hs).1
    exact c.2.2.1 d i j p q ih h1 h2 ((hS i h1 (by omega)).trans h3) ((hS j (by omega) h2).trans h4)
  · intro d i j p q hs ih
    exact c.2.2.2.1 d i j p q ih
  · intro d i m j p r q hs ih h1 hs' ih' h3 h4 h5
    have b := (y_seg_b hs).1
    have b' := (y_seg_b hs').1
    exact c.2.2.2.2.1 d i m j p r q ih ((hS m (by omega) (by omega)).trans h1) ih' h3 h4 h5
  · intro d i j p q hs ih h1
    have b := (y_seg_b hs).1
    exact c.2.2.2.2.2.1 d i j p q ih (fun z => by rw [hS j (by omega) z]; exact h1 z)
  · intro d i m j p r q hs ih h1 hs' ih' h2 h3 h4 h5
    have b := (y_seg_b hs).1
    have b' := (y_seg_b hs').1
    exact c.2.2.2.2.2.2 d i m j p r q ih ((hS m (by omega) (by omega)).trans h1) ih' (fun z => by rw [hS j (by omega) z]; exact h2 z) h3 h4 h5
theorem y_tsl_congr {nm S S' : Int → Int} : ∀ (k : Nat) (i : Int), (∀ j, i ≤ j → j < i + k → S' j = S j) → y_tsl nm S' k i = y_tsl nm S k i
  | 0, _, _ => rfl
  | k + 1, i, h => by
    rw [y_tsl_s, y_tsl_s, h i (Int.le_refl _) (by omega), y_tsl_congr k (i + 1) (fun j j0 j1 => h j (by omega) (by omega))]
section
variable {fu : Nat} {L : zL} {M N : zM} {top : Int}
theorem y_gp.congr {g : Int} {S S' : Int → Int} {lv : Int} {nm : Int → Int} (h : y_gp L M g top S lv nm) (hS : ∀ i, 0 ≤ i → i < 315 → S' i = S i) : y_gp L M g top S' lv nm := by
  obtain ⟨st, pt, tl, h1, h2, h3, h4, h5, h6, h7, h8⟩ := h
  have e0 := hS 0 (by decide) (by decide)
  have e1 := hS 1 (by decide) (by decide)
  have e2 := hS 2 (by decide) (by decide)
  have e3 := hS 3 (by decide) (by decide)
  have e4 := hS 4 (by decide) (by decide)
  have hS5 : ∀ i, 0 ≤ i → i < S 4 → (fun i => S' (5 + i)) i = (fun i => S (5 + i)) i := fun i i0 i1 => hS (5 + i) (by omega) (by omega)
  have et : y_tx nm S' = y_tx nm S := by
    unfold y_tx
    rw [e0, e1, e4, y_tsl_congr (S := fun i => S (5 + i)) (S' := fun i => S' (5 + i)) (S 4).toNat 0 (fun j j0 j1 => hS5 j j0 (by omega))]
  refine ⟨st, pt, tl, h1, ?_, ?_, ?_, ?_, ?_, ?_, ?_⟩
  · rw [e0, e1, e2, e3]; exact h2
  · rw [e0, e1, e4]; exact h3
  · rw [e4]
    intro i i0 i1
    rw [hS5 i i0 i1]; exact h4 i i0 i1
  · rw [e4]; exact h5.congr hS5
  · rw [e4]
    obtain ⟨p1, sb, pb, z1, z2, z3⟩ := h6
    refine ⟨p1, sb, pb, z1, z2, fun k k0 k1 => ⟨(z3 k k0 k1).1.congr hS5, fun c => ?_⟩⟩
    have b1 := (y_seg_b (z3 k k0 k1).1).1
    have b2 := (y_seg_b (z3 (k + 1) (by omega) c).1).1
    rw [hS _ (by omega) (by omega)]
    exact (z3 k k0 k1).2 c
  · rw [et]; exact h7
  · rw [e2]; exact h8
theorem y_ra.congr {a : Int} {w w' : Int → Int} {lv : Int} {nm ag pr : Int → Int} (h : y_ra L M a top w lv nm ag pr) (hw : ∀ i, 0 ≤ i → i < 2597 → w' i = w i) : y_ra L M a top w' lv nm ag pr := by
  obtain ⟨h1, h2, h3, h4, h5, h6, h7⟩ := h
  have v := h5.1
  have e0 := hw 0 (by decide) (by decide)
  have e1 := hw 1 (by decide) (by decide)
  have e74 := hw 74 (by decide) (by decide)
  have e75 := hw 75 (by decide) (by decide)
  have e76 := hw 76 (by decide) (by decide)
  have ee : ∀ p, 0 ≤ p → p < w 1 → w' (2 + p) = w (2 + p) ∧ w' (26 + p) = w (26 + p) ∧ w' (50 + p) = w (50 + p) := fun p p0 p1 => ⟨hw _ (by omega) (by omega), hw _ (by omega) (by omega), hw _ (by omega) (by omega)⟩
  refine ⟨h1, ?_, ?_, h4.congr e0 e1 ee, h5.congr e0 e1 ee, fun l l0 l1 => ?_, fun g g0 g1 => ?_⟩
  · rw [e74, e75, e76]; exact h2
  · rw [e0, e74, e75, e76]; exact h3
  · rw [hw _ (by omega) (by omega), hw _ (by omega) (by omega)]; exact h6 l l0 l1
  · rw [e76] at g1
    exact (h7 g g0 g1).congr (fun i i0 i1 => hw _ (by omega) (by omega))
/-- what the affairs at d have that never changes -/
def y_afs (L : zL) (M : zM) (d : Int) : Prop := (L d = (2, 0) ∧ L (d + 5) = (103, 8)) ∧ (M d 0 = d + 1 ∧ M d 1 = d + 5) ∧ WL L M (d + 1) (d + 2) (d + 3) (d + 4)
/-- what copyFrom writes -/
def y_wri (d x i : Int) : Prop := (x = d ∧ 2 ≤ i ∧ i ≤ 4) ∨ (x = d + 1 ∧ 3 ≤ i ∧ i ≤ 5) ∨ (d + 2 ≤ x ∧ x ≤ d + 5)
theorem Wd_copyFrom_ok (hf : 400 ≤ fu) {a s lv : Int} {w : Int → Int} (h : WR L M s (s + 1) (s + 2) (s + 3) lv w) (v : WV lv w) (ha : WL L M a (a + 1) (a + 2) (a + 3)) (hs : s + 3 < a ∨ a + 3 < s) :
    ∃ M', Wd_copyFrom fu L M a s = some M' ∧ (∀ x j, ¬ (x = a ∧ 3 ≤ j ∧ j ≤ 5) → ¬ (a + 1 ≤ x ∧ x ≤ a + 3) → M' x j = M x j) ∧ WR L M' a (a + 1) (a + 2) (a + 3) lv w := by
  have hw := v.1
  have ls := h.1.1
  have la := ha.1
  obtain ⟨Q, hQ⟩ : ∃ Q, Q = mu (mu (mu M a 3 0) a 4 0) a 5 0 := ⟨_, rfl⟩
  obtain ⟨T, k, e, ⟨o, t4, t6⟩⟩ := y_lpx (F := fun k (T : zM) i => Wd_copyFrom_l6 fu L k T a s i) (N := w 1)
    (fun i T => (∀ x j, ¬ (x = a ∧ 3 ≤ j ∧ j ≤ 5) → ¬ (a + 1 ≤ x ∧ x ≤ a + 3) → T x j = M x j) ∧ T a 4 = i ∧ ∀ p, 0 ≤ p → p < i → T (a + 1) p = w (2 + p) ∧ T (a + 2) p = y_cD (w (26 + p)) ∧ T (a + 3) p = w (50 + p))
    (fun k T i h0 hN hJ => by
      obtain ⟨o, t4, t6⟩ := hJ
      have Ws : WR L T s (s + 1) (s + 2) (s + 3) lv w := h.of fun x j c => o x j (by omega) (by omega)
      have Wa : WL L T a (a + 1) (a + 2) (a + 3) := by
        obtain ⟨w1, ⟨w2, w3, w4⟩, w5⟩ := ha
        exact ⟨w1, ⟨(o _ _ (by omega) (by omega)).trans w2, (o _ _ (by omega) (by omega)).trans w3, (o _ _ (by omega) (by omega)).trans w4⟩, w5⟩
      have ew : w32 (i + 1) = i + 1 := w32_id (by omega)
      have s4 : T s 4 = w 1 := Ws.2.1.2.1
      have ii : 0 ≤ i ∧ i < w 1 := ⟨h0, hN⟩
      have ea := Wd_add_ok (fu := fu) (y := w (2 + i)) (p := w (50 + i)) Wa (by omega) t4 (by omega)
      obtain ⟨U, hU⟩ : ∃ U, U = mu (mu (mu (mu T (a + 1) i (w (2 + i))) (a + 2) i (-1000000)) (a + 3) i (w (50 + i))) a 4 (i + 1) := ⟨_, rfl⟩
      rw [← hU] at ea
      have oU : ∀ x j, ¬ (x = a ∧ 3 ≤ j ∧ j ≤ 5) → ¬ (a + 1 ≤ x ∧ x ≤ a + 3) → U x j = M x j := fun x j c1 c2 => by
        rw [hU, mx_ne (by omega), mx_ne (by omega), mx_ne (by omega), mx_ne (by omega)]; exact o x j c1 c2
      have Us : WR L U s (s + 1) (s + 2) (s + 3) lv w := h.of fun x j c => oU x j (by omega) (by omega)
      have U4 : U a 4 = i + 1 := by rw [hU, mx_same]
      have U1 : U a 1 = a + 2 := (oU _ _ (by omega) (by omega)).trans ha.2.1.2.1
      have Uw : WL L U a (a + 1) (a + 2) (a + 3) := by
        obtain ⟨w1, ⟨w2, w3, w4⟩, w5⟩ := ha
        exact ⟨w1, ⟨(oU _ _ (by omega) (by omega)).trans w2, (oU _ _ (by omega) (by omega)).trans w3, (oU _ _ (by omega) (by omega)).trans w4⟩, w5⟩
      have sd : ∀ y, Wd_setDeath fu L U a i y = some (mu U (a + 2) i y) := fun y => by
        unfold Wd_setDeath
        rw [la, if_pos rfl, Wd_has_ok Uw (by rw [U4]; omega), U4, if_pos (by omega), bd1_some, if_neg (by decide), U1, ha.2.2.2.1, if_pos rfl, if_pos (show 0 ≤ i ∧ i < ((101, 24) : Int × Int).2 by show 0 ≤ i ∧ i < 24; omega), lt1_def]
      refine ⟨mu U (a + 2) i (y_cD (w (26 + i))), ?_, ?_, ?_, ?_⟩
      · show Wd_copyFrom_s6 _ _ _ _ _ _ _ = _
        unfold Wd_copyFrom_s6
        rw [ls, if_pos rfl, s4, if_pos hN, Wr_bornIn Ws v, if_pos ii, bd1_some, Wr_parentOf Ws v, if_pos ii, bd1_some, la, if_pos rfl, ea, bd1_some, Wr_diedIn Us v, if_pos ii, bd1_some, sd, bd1_some, lt1_def, ew]
      · intro x j c1 c2
        rw [mx_ne (by omega)]; exact oU x j c1 c2
      · rw [mx_ne (by omega)]; exact U4
      · intro p p0 p1
        by_cases c : p = i
        · subst c
          refine ⟨?_, mx_same _ _ _ _, ?_⟩
          · rw [mx_ne (by omega), hU, mx_ne (by omega), mx_ne (by omega), mx_ne (by omega), mx_same]
          · rw [mx_ne (by omega), hU, mx_ne (by omega), mx_same]
        · obtain ⟨r1, r2, r3⟩ := t6 p p0 (by omega)
          refine ⟨?_, ?_, ?_⟩
          · rw [mx_ne (by omega), hU, mx_ne (by omega), mx_ne (by omega), mx_ne (by omega), mx_ne (by omega)]; exact r1
          · rw [mx_ne (by omega), hU, mx_ne (by omega), mx_ne (by omega), mx_ne (by omega), mx_ne (by omega)]; exact r2
          · rw [mx_ne (by omega), hU, mx_ne (by omega), mx_ne (by omega), mx_ne (by omega), mx_ne (by omega)]; exact r3) (w 1).toNat fu Q 0 (by omega) (by omega) (by omega) (by
      refine ⟨fun x j c1 c2 => ?_, ?_, fun p p0 p1 => absurd p1 (by omega)⟩
      · rw [hQ, mx_ne (by omega), mx_ne (by omega), mx_ne (by omega)]
      · rw [hQ, mx_ne (by omega), mx_same])
  have Ts : WR L T s (s + 1) (s + 2) (s + 3) lv w := h.of fun x j c => o x j (by omega) (by omega)
  have s3 : T s 3 = lv := Ts.2.1.1
  have s5 : T s 5 = w 0 := Ts.2.1.2.2
  have s4 : T s 4 = w 1 := Ts.2.1.2.1
  have fin : Wd_copyFrom_l6 fu L (k + 1) T a s (w 1) = some (mu (mu T a 3 lv) a 5 (w 0)) := by
    have s5' : mu T a 3 lv s 5 = w 0 := (mx_ne (by omega)).trans s5
    show Wd_copyFrom_s6 _ _ _ _ _ _ _ = _
    unfold Wd_copyFrom_s6
    rw [ls, if_pos rfl, s4, if_neg (by omega), la, if_pos rfl, s3, lt1_def, s5', lt1_def]
  refine ⟨mu (mu T a 3 lv) a 5 (w 0), ?_, fun x j c1 c2 => ?_, ?_⟩
  · unfold Wd_copyFrom Wd_clear
    rw [la, if_pos rfl, if_pos rfl, lt1_def, lt1_def, lt1_def, bd1_some, ← hQ]
    exact e.trans fin
  · rw [mx_ne (by omega), mx_ne (by omega)]; exact o x j c1 c2
  · obtain ⟨w1, ⟨w2, w3, w4⟩, w5⟩ := ha
    refine ⟨⟨w1, ⟨?_, ?_, ?_⟩, w5⟩, ⟨?_, ?_, ?_⟩, fun p p0 p1 => ?_⟩
    · rw [mx_ne (by omega), mx_ne (by omega), o _ _ (by omega) (by omega)]; exact w2
    · rw [mx_ne (by omega), mx_ne (by omega), o _ _ (by omega) (by omega)]; exact w3
    · rw [mx_ne (by omega), mx_ne (by omega), o _ _ (by omega) (by omega)]; exact w4
    · rw [mx_ne (by omega), mx_same]
    · rw [mx_ne (by omega), mx_ne (by omega)]; exact t4
    · rw [mx_same]
    · obtain ⟨r1, r2, r3⟩ := t6 p p0 p1
      refine ⟨?_, ?_, ?_⟩
      · rw [mx_ne (by omega), mx_ne (by omega)]; exact r1
      · rw [mx_ne (by omega), mx_ne (by omega)]; exact r2
      · rw [mx_ne (by omega), mx_ne (by omega)]; exact r3
end

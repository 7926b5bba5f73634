/-! ===== pure: part 9r: a family found ===== -/
theorem famL_1 {f : Int → Int} {n : Int} : ∀ (k : Nat) (m b : Int) (g h q : Int → Int), 0 ≤ b → b ≤ n → (famL f n k m g h q b).1 = -1 → m + 1 ≤ (famL f n k m g h q b).2.1
  | 0, m, b, g, h, q, h0, hn, e => by
    have e' : b = -1 := e
    omega
  | k + 1, m, b, g, h, q, h0, hn, e => by
    have pp := piece_pos (f := f) (m := m) (g := g) (h := h) h0 hn
    unfold famL at e ⊢
    generalize piece f n m g h b = t at *
    obtain ⟨t1, t2, t3, t4, t5⟩ := t
    dsimp only at pp e ⊢
    by_cases c0 : t1 = 0
    · rw [if_pos c0] at e ⊢
      have e' : t2 = -1 := e
      omega
    · rw [if_neg c0] at e ⊢
      by_cases c1 : tkK f n t2 = 0
      · rw [if_pos c1]; exact Int.le_refl _
      · rw [if_neg c1] at e ⊢
        by_cases c2 : isG 59 f n t2 = true
        · rw [if_pos c2] at e ⊢
          have e0 := nxt_ge (f := f) pp.2
          have := famL_1 k (m + 1) (nxt f n t2) _ _ _ (by omega) (nxt_le pp.2) e
          omega
        · rw [if_neg c2] at e ⊢
          exact Int.le_refl _
section
variable {fu : Nat} {L : zL} {M A N Z : zM} {top : Int}
theorem Fr_found_y (hf : 400 ≤ fu) (hL : Lay L) (hP : Ptr A) {m : Int} (h4 : A 5 4 = m) (hm : 0 ≤ m ∧ m ≤ 8) (hb : ∀ i, 0 ≤ i → i < m → 0 ≤ A 7 i ∧ A 7 i ≤ 99) :
    ∃ D, Fr_found fu L A 5 19 = some D ∧ (∀ x i, ¬ (x = 2 ∧ i = 3) → x ≠ 4 → ¬ (19 ≤ x ∧ x ≤ 20) → ¬ (21 ≤ x ∧ x ≤ 23) → D x i = A x i) ∧ (D 2 3 = m ∧ ∀ i, 0 ≤ i → i < m → D 4 i = A 6 i) ∧ ((D 19 0 = 20 ∧ D 19 1 = 24 ∧ D 19 2 = 0 ∧ D 19 3 = 21 ∧ D 19 4 = 99) ∧ (D 20 0 = 21 ∧ D 20 1 = 22 ∧ D 20 2 = 23 ∧ D 20 3 = m ∧ D 20 4 = m ∧ D 20 5 = 0) ∧ ∀ i, 0 ≤ i → i < m → D 21 i = - A 7 i ∧ D 22 i = -1000000 ∧ D 23 i = A 8 i) ∧ Ptr D := by
  have l2 : L 2 = (8, 0) := hL 2 (by decide)
  have l4 : L 4 = (101, 8) := hL 4 (by decide)
  have l5 : L 5 = (3, 0) := hL 5 (by decide)
  have l6 : L 6 = (101, 8) := hL 6 (by decide)
  have l7 : L 7 = (101, 8) := hL 7 (by decide)
  have l8 : L 8 = (101, 8) := hL 8 (by decide)
  have l19 : L 19 = (2, 0) := hL 19 (by decide)
  have l20 : L 20 = (11, 0) := hL 20 (by decide)
  have p0 : A 5 0 = 2 := hP (5, 0, 2) (by decide +kernel)
  have p1 : A 5 1 = 6 := hP (5, 1, 6) (by decide +kernel)
  have p2 : A 5 2 = 7 := hP (5, 2, 7) (by decide +kernel)
  have p3 : A 5 3 = 8 := hP (5, 3, 8) (by decide +kernel)
  have w0 : A 19 0 = 20 := hP (19, 0, 20) (by decide +kernel)
  have w1 : A 19 1 = 24 := hP (19, 1, 24) (by decide +kernel)
  have b0 : A 20 0 = 21 := hP (20, 0, 21) (by decide +kernel)
  have b1 : A 20 1 = 22 := hP (20, 1, 22) (by decide +kernel)
  have b2 : A 20 2 = 23 := hP (20, 2, 23) (by decide +kernel)
  have t1 : A 2 1 = 4 := hP (2, 1, 4) (by decide +kernel)
  obtain ⟨B, hB⟩ : ∃ B, B = mu (mu (mu (mu (mu (mu A 20 3 0) 20 4 0) 20 5 0) 19 2 0) 19 3 21) 19 4 99 := ⟨_, rfl⟩
  have oB : ∀ x i, ¬ (x = 20 ∧ 3 ≤ i ∧ i ≤ 5) → ¬ (x = 19 ∧ 2 ≤ i ∧ i ≤ 4) → B x i = A x i := fun x i q q1 => by
    rw [hB, mx_ne (by omega), mx_ne (by omega), mx_ne (by omega), mx_ne (by omega), mx_ne (by omega), mx_ne (by omega)]
  have B203 : B 20 3 = 0 := by rw [hB, mx_ne (by decide), mx_ne (by decide), mx_ne (by decide), mx_ne (by decide), mx_ne (by decide), mx_same]
  have B204 : B 20 4 = 0 := by rw [hB, mx_ne (by decide), mx_ne (by decide), mx_ne (by decide), mx_ne (by decide), mx_same]
  have B205 : B 20 5 = 0 := by rw [hB, mx_ne (by decide), mx_ne (by decide), mx_ne (by decide), mx_same]
  have B192 : B 19 2 = 0 := by rw [hB, mx_ne (by decide), mx_ne (by decide), mx_same]
  have B193 : B 19 3 = 21 := by rw [hB, mx_ne (by decide), mx_same]
  have B194 : B 19 4 = 99 := by rw [hB, mx_same]
  have cl : Af_clear fu L A 19 = some B := by
    unfold Af_clear Wd_clear
    rw [l19, if_pos rfl, w0, l20, if_pos rfl, if_pos rfl, lt1_def, lt1_def, lt1_def, bd1_some, lt1_def, lt1_def, lt1_def, ← hB]
  obtain ⟨T, k, e, ⟨o, s1, s2⟩⟩ := y_lpx (F := fun k (T : zM) i => Fr_found_l6 fu L k T 5 19 i) (N := m)
    (fun i T => (∀ x j, ¬ (x = 20 ∧ 3 ≤ j ∧ j ≤ 4) → ¬ (21 ≤ x ∧ x ≤ 23) → T x j = B x j) ∧ (T 20 3 = i ∧ T 20 4 = i) ∧ ∀ p, 0 ≤ p → p < i → T 21 p = - A 7 p ∧ T 22 p = -1000000 ∧ T 23 p = A 8 p)
    (fun k T i h0 hN hJ => by
      obtain ⟨o, ⟨s3, s4⟩, s2⟩ := hJ
      have oA : ∀ x j, x ≠ 20 → x ≠ 19 → ¬ (21 ≤ x ∧ x ≤ 23) → T x j = A x j := fun x j q q1 q2 => (o x j (by omega) q2).trans (oB x j (by omega) (by omega))
      have Wa : WL L T 20 21 22 23 := ⟨l20, ⟨(o _ _ (by omega) (by omega)).trans ((oB _ _ (by omega) (by omega)).trans b0), (o _ _ (by omega) (by omega)).trans ((oB _ _ (by omega) (by omega)).trans b1), (o _ _ (by omega) (by omega)).trans ((oB _ _ (by omega) (by omega)).trans b2)⟩, hL 21 (by decide), hL 22 (by decide), hL 23 (by decide)⟩
      have ew : w32 (i + 1) = i + 1 := w32_id (by omega)
      have hbi := hb i h0 hN
      have en : w32 (-(A 7 i)) = -(A 7 i) := w32_id (by omega)
      have ea := Wd_add_ok (fu := fu) (y := -(A 7 i)) (p := A 8 i) Wa (by decide) s4 (by omega)
      have g1 : i < ((101, 8) : Int × Int).2 := by show i < 8; omega
      have q4 : T 5 4 = m := (oA _ _ (by decide) (by decide) (by decide)).trans h4
      have q2 : T 5 2 = 7 := (oA _ _ (by decide) (by decide) (by decide)).trans p2
      have q3 : T 5 3 = 8 := (oA _ _ (by decide) (by decide) (by decide)).trans p3
      have q0 : T 19 0 = 20 := (o _ _ (by decide) (by decide)).trans ((oB _ _ (by decide) (by decide)).trans w0)
      have q7 : T 7 i = A 7 i := oA _ _ (by decide) (by decide) (by decide)
      have q8 : T 8 i = A 8 i := oA _ _ (by decide) (by decide) (by decide)
      have e4 : mu (mu (mu (mu T 21 i (-(A 7 i))) 22 i (-1000000)) 23 i (A 8 i)) 20 4 (i + 1) 20 4 = i + 1 := mx_same _ _ _ _
      refine ⟨mu (mu (mu (mu (mu T 21 i (-(A 7 i))) 22 i (-1000000)) 23 i (A 8 i)) 20 4 (i + 1)) 20 3 (i + 1), ?_, ?_, ⟨mx_same _ _ _ _, ?_⟩, ?_⟩
      · show Fr_found_s6 _ _ _ _ _ _ _ = _
        unfold Fr_found_s6 Wd_addLife
        rw [l5, if_pos rfl, q4, if_pos hN, q2, l7, if_pos rfl, if_pos g1, q3, l8, if_pos rfl, if_pos g1, l19, if_pos rfl, if_pos (show 0 ≤ i ∧ i < ((101, 8) : Int × Int).2 from ⟨h0, g1⟩), if_pos (show 0 ≤ i ∧ i < ((101, 8) : Int × Int).2 from ⟨h0, g1⟩), q0, l20, if_pos rfl, q7, q8, if_pos rfl, en, ea, bd1_some, e4, lt1_def, bd1_some, lt1_def, ew]
      · intro x j c1 c2
        rw [mx_ne (by omega), mx_ne (by omega), mx_ne (by omega), mx_ne (by omega), mx_ne (by omega)]
        exact o x j c1 c2
      · rw [mx_ne (by omega), mx_same]
      · intro p pp0 pp1
        by_cases c : p = i
        · subst c
          refine ⟨?_, ?_, ?_⟩
          · rw [mx_ne (by omega), mx_ne (by omega), mx_ne (by omega), mx_ne (by omega), mx_same]
          · rw [mx_ne (by omega), mx_ne (by omega), mx_ne (by omega), mx_same]
          · rw [mx_ne (by omega), mx_ne (by omega), mx_same]
        · obtain ⟨r1, r2, r3⟩ := s2 p pp0 (by omega)
          refine ⟨?_, ?_, ?_⟩
          · rw [mx_ne (by omega), mx_ne (by omega), mx_ne (by omega), mx_ne (by omega), mx_ne (by omega)]; exact r1
          · rw [mx_ne (by omega), mx_ne (by omega), mx_ne (by omega), mx_ne (by omega), mx_ne (by omega)]; exact r2
          · rw [mx_ne (by omega), mx_ne (by omega), mx_ne (by omega), mx_ne (by omega), mx_ne (by omega)]; exact r3) m.toNat fu B 0 (by omega) (by omega) (by omega) ⟨fun _ _ _ _ => rfl, ⟨B203, B204⟩, fun p pp0 pp1 => absurd pp1 (by omega)⟩
  have oA : ∀ x j, x ≠ 20 → x ≠ 19 → ¬ (21 ≤ x ∧ x ≤ 23) → T x j = A x j := fun x j q q1 q2 => (o x j (by omega) q2).trans (oB x j (by omega) (by omega))
  -- the names
  obtain ⟨Q, hQ⟩ : ∃ Q, Q = mu T 2 3 0 := ⟨_, rfl⟩
  obtain ⟨D, k2, e2, ⟨o2, u1, u2⟩⟩ := y_lpx (F := fun k (T : zM) i => Tp_learn_l7 fu L k T 2 6 m i) (N := m)
    (fun i D => (∀ x j, ¬ (x = 2 ∧ j = 3) → x ≠ 4 → D x j = T x j) ∧ D 2 3 = i ∧ ∀ p, 0 ≤ p → p < i → D 4 p = A 6 p)
    (fun k D i h0 hN hJ => by
      obtain ⟨o2, u1, u2⟩ := hJ
      have ew : w32 (i + 1) = i + 1 := w32_id (by omega)
      have g1 : i < ((101, 8) : Int × Int).2 := by show i < 8; omega
      have q1 : D 2 1 = 4 := (o2 _ _ (by decide) (by decide)).trans ((oA _ _ (by decide) (by decide) (by decide)).trans t1)
      have q6 : D 6 i = A 6 i := (o2 _ _ (by omega) (by decide)).trans (oA _ _ (by decide) (by decide) (by decide))
      have e3 : mu D 4 i (A 6 i) 2 3 = i := (mx_ne (by omega)).trans u1
      refine ⟨mu (mu D 4 i (A 6 i)) 2 3 (i + 1), ?_, fun x j c1 c2 => ?_, mx_same _ _ _ _, fun p pp0 pp1 => ?_⟩
      · show Tp_learn_s7 _ _ _ _ _ _ _ _ = _
        unfold Tp_learn_s7
        rw [if_pos hN, l6, if_pos rfl, if_pos g1, l2, if_pos rfl, q1, l4, if_pos rfl, if_pos g1, if_pos (show 0 ≤ i ∧ i < ((101, 8) : Int × Int).2 from ⟨h0, g1⟩), if_pos (show 0 ≤ i ∧ i < ((101, 8) : Int × Int).2 from ⟨h0, g1⟩), q6, lt1_def, e3, ew, lt1_def, lt1_def]
      · rw [mx_ne (by omega), mx_ne (by omega)]; exact o2 x j c1 c2
      · by_cases c : p = i
        · subst c; rw [mx_ne (by omega), mx_same]
        · rw [mx_ne (by omega), mx_ne (by omega)]; exact u2 p pp0 (by omega)) m.toNat fu Q 0 (by omega) (by omega) (by omega) ⟨fun x j c1 c2 => by rw [hQ, mx_ne (by omega)], by rw [hQ, mx_same], fun p pp0 pp1 => absurd pp1 (by omega)⟩
  have ln : Tp_learn fu L T 2 6 m = some D := by
    unfold Tp_learn
    rw [l2, if_pos rfl, lt1_def, ← hQ, e2]
    show Tp_learn_s7 _ _ _ _ _ _ _ _ = _
    unfold Tp_learn_s7
    rw [if_neg (by omega)]
  have oD : ∀ x i, ¬ (x = 2 ∧ i = 3) → x ≠ 4 → ¬ (x = 20 ∧ 3 ≤ i ∧ i ≤ 5) → ¬ (x = 19 ∧ 2 ≤ i ∧ i ≤ 4) → ¬ (21 ≤ x ∧ x ≤ 23) → D x i = A x i := fun x i q q1 q2 q3 q4 => (o2 x i q q1).trans ((o x i (by omega) q4).trans (oB x i q2 q3))
  refine ⟨D, ?_, fun x i q q1 q2 q3 => oD x i q q1 (by omega) (by omega) q3, ⟨u1, u2⟩, ⟨⟨?_, ?_, ?_, ?_, ?_⟩, ⟨?_, ?_, ?_, ?_, ?_, ?_⟩, fun i i0 i1 => ?_⟩, fun q hq => ?_⟩
  · unfold Fr_found
    rw [l19, if_pos rfl, cl, bd1_some]
    refine e.trans ?_
    show Fr_found_s6 _ _ _ _ _ _ _ = _
    unfold Fr_found_s6 Fr_found_b57
    rw [l5, if_pos rfl, (oA 5 4 (by decide) (by decide) (by decide)).trans h4, if_neg (by omega), if_pos rfl, (oA 5 0 (by decide) (by decide) (by decide)).trans p0, l2, if_pos rfl, (oA 5 1 (by decide) (by decide) (by decide)).trans p1, ln, bd1_some]
  · exact (oD _ _ (by decide) (by decide) (by decide) (by decide) (by decide)).trans w0
  · exact (oD _ _ (by decide) (by decide) (by decide) (by decide) (by decide)).trans w1
  · exact (o2 _ _ (by decide) (by decide)).trans ((o _ _ (by decide) (by decide)).trans B192)
  · exact (o2 _ _ (by decide) (by decide)).trans ((o _ _ (by decide) (by decide)).trans B193)
  · exact (o2 _ _ (by decide) (by decide)).trans ((o _ _ (by decide) (by decide)).trans B194)
  · exact (oD _ _ (by decide) (by decide) (by decide) (by decide) (by decide)).trans b0
  · exact (oD _ _ (by decide) (by decide) (by decide) (by decide) (by decide)).trans b1
  · exact (oD _ _ (by decide) (by decide) (by decide) (by decide) (by decide)).trans b2
  · exact (o2 _ _ (by decide) (by decide)).trans s1.1
  · exact (o2 _ _ (by decide) (by decide)).trans s1.2
  · exact (o2 _ _ (by decide) (by decide)).trans ((o _ _ (by decide) (by decide)).trans B205)
  · rw [o2 _ _ (by omega) (by decide), o2 _ _ (by omega) (by decide), o2 _ _ (by omega) (by decide)]
    exact s2 i i0 i1
  · have h9 : ∀ q ∈ zPt, ¬ ((q.1 : Int) = 2 ∧ (q.2.1 : Int) = 3) ∧ (q.1 : Int) ≠ 4 ∧ ¬ ((q.1 : Int) = 20 ∧ 3 ≤ (q.2.1 : Int) ∧ (q.2.1 : Int) ≤ 5) ∧ ¬ ((q.1 : Int) = 19 ∧ 2 ≤ (q.2.1 : Int) ∧ (q.2.1 : Int) ≤ 4) ∧ ¬ (21 ≤ (q.1 : Int) ∧ (q.1 : Int) ≤ 23) := by decide +kernel
    have z := h9 q hq
    rw [oD _ _ z.1 z.2.1 z.2.2.1 z.2.2.2.1 z.2.2.2.2]; exact hP q hq
end
